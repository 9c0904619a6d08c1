/-! PURE: the class takes a block and gives one back -/
/-- of the free blocks of the least order from o on, that with the least frame -/
def lst (Z : Nat → Prop) (o k f : Nat) : Prop := o ≤ k ∧ k < 8 ∧ f < 128 ∧ f % 2 ^ k = 0 ∧ mx Z k f ∧ (∀ j, o ≤ j → j < k → ∀ g, g < 128 → g % 2 ^ j = 0 → ¬ mx Z j g) ∧ ∀ g, g < f → g % 2 ^ k = 0 → ¬ mx Z k g
def non (Z : Nat → Prop) (o : Nat) : Prop := ∀ j, o ≤ j → j < 8 → ∀ g, g < 128 → g % 2 ^ j = 0 → ¬ mx Z j g
theorem lst.uniq {Z : Nat → Prop} {o k f k' f' : Nat} (h : lst Z o k f) (h' : lst Z o k' f') : k' = k ∧ f' = f := by
  obtain ⟨a1, a2, a3, a4, a5, a6, a7⟩ := h
  obtain ⟨b1, b2, b3, b4, b5, b6, b7⟩ := h'
  have hk : k' = k := by
    rcases Nat.lt_trichotomy k k' with q | q | q
    · exact absurd a5 (b6 k a1 q f a3 a4)
    · exact q.symm
    · exact absurd b5 (a6 k' b1 q f' b3 b4)
  subst hk
  refine ⟨rfl, ?_⟩
  rcases Nat.lt_trichotomy f f' with q | q | q
  · exact absurd a5 (b7 f q a4)
  · exact q.symm
  · exact absurd b5 (a7 f' q b4)
theorem lst.not {Z : Nat → Prop} {o k f : Nat} (h : lst Z o k f) (h' : non Z o) : False := h' k h.1 h.2.1 f h.2.2.1 h.2.2.2.1 h.2.2.2.2.1
theorem al_mono {k j f : Nat} (h : k ≤ j) (ha : f % 2 ^ j = 0) : f % 2 ^ k = 0 := by
  have : 2 ^ k ∣ 2 ^ j := Nat.pow_dvd_pow 2 h
  exact Nat.mod_eq_zero_of_dvd (Nat.dvd_trans this (Nat.dvd_of_mod_eq_zero ha))
/-- the upper half -/
theorem half_sb {j f : Nat} (ha : f % 2 ^ (j + 1) = 0) (i : Nat) : sb (j + 1) i f ↔ sb j i f ∨ sb j i (f + 2 ^ j) := by
  have h1 : f % 2 ^ j = 0 := al_mono (Nat.le_succ j) ha
  have h2 : (f + 2 ^ j) % 2 ^ j = 0 := by rw [Nat.add_mod_right]; exact h1
  rw [sb_iff ha, sb_iff h1, sb_iff h2, Nat.pow_succ]
  omega
theorem half_ns {j f : Nat} (ha : f % 2 ^ (j + 1) = 0) : ¬ sb j f (f + 2 ^ j) := by
  have h1 : f % 2 ^ j = 0 := al_mono (Nat.le_succ j) ha
  have h2 : (f + 2 ^ j) % 2 ^ j = 0 := by rw [Nat.add_mod_right]; exact h1
  rw [sb_iff h2]
  have := Nat.two_pow_pos j
  omega
theorem half_z {Z : Nat → Prop} {j f : Nat} (ha : f % 2 ^ (j + 1) = 0) : zm Z (j + 1) f = zm (zm Z j f) j (f + 2 ^ j) := by
  funext i
  refine propext ?_
  unfold zm
  rw [half_sb ha]
  exact ⟨fun q => ⟨⟨q.1, fun r => q.2 (Or.inl r)⟩, fun r => q.2 (Or.inr r)⟩, fun q => ⟨q.1.1, fun r => r.elim q.1.2 q.2⟩⟩
theorem half_mx {Z : Nat → Prop} {j f : Nat} (ha : f % 2 ^ (j + 1) = 0) (h : af Z (j + 1) f) : mx (zm Z j f) j (f + 2 ^ j) := by
  refine ⟨fun i hi => ⟨h i ((half_sb ha i).mpr (Or.inr hi)), fun q => half_ns ha (q.symm.trans hi)⟩, Or.inr fun a => ?_⟩
  have : sb (j + 1) f (f + 2 ^ j) := ((half_sb ha (f + 2 ^ j)).mpr (Or.inr sb.rfl')).symm
  exact (a f this).2 sb.rfl'
theorem nI_s1 (n : Nat) : nI n + (-1) = nI n - 1 := by
  rw [Int32.sub_eq_add_neg]
theorem m1_lt {n : Nat} (h : n < 2 ^ 31) : (nI 0 - 1 : Int32) < nI n := by
  rw [Int32.lt_iff_toInt_lt, nI_toInt h]
  have : (nI 0 - 1 : Int32).toInt = -1 := by decide
  omega
theorem take_l {Z : Nat → Prop} {o f x2 : Nat} (ho : o < 8) (hf : f < 128) : ∀ (n j : Nat) (σ : KS), o ≤ j → j < 8 → j < n → f % 2 ^ j = 0 → af Z j f → cB σ (zm Z j f) →
    ∃ σ', f_X0_takeBlock_30 n (nI o) (nI x2) (nI f) (nI j - 1) σ = some (nI f, σ') ∧ sam [4, 5] σ σ' ∧ cB σ' (zm Z o f) := by
  intro n
  induction n with
  | zero => intro j σ _ _ h; omega
  | succ n ih =>
    intro j σ h1 h2 h3 ha haf hc
    rw [f_X0_takeBlock_30]
    by_cases e : j = o
    · subst e
      refine ⟨σ, ?_, sam.refl, hc⟩
      cases j with
      | zero => rw [if_pos (m1_lt (by decide))]
      | succ j => rw [nI_pred, if_pos (nI_lt (by omega) (by omega))]
    · obtain ⟨i, rfl⟩ : ∃ i, j = i + 1 := ⟨j - 1, by omega⟩
      have hp := pw8 (show i < 8 by omega)
      have hle := al_le h2 hf ha
      rw [nI_pred, if_neg (nI_nlt (by omega) (by omega)), sh1 i (by omega), nI_add]
      rw [half_z ha] at hc
      have hup : f + 2 ^ i < 128 := by rw [Nat.pow_succ] at hle; omega
      obtain ⟨σ1, r1, s1, c1⟩ := cB_in hc (by omega) hup (by rw [Nat.add_mod_right]; exact al_mono (Nat.le_succ i) ha) (half_mx ha haf)
      obtain ⟨σ2, r2, s2, c2⟩ := ih i σ1 (by omega) (by omega) (by omega) (al_mono (Nat.le_succ i) ha) (haf.mono (Nat.le_succ i)) c1
      refine ⟨σ2, ?_, s1.trans s2, c2⟩
      rw [bnd_eq r1, nI_s1]
      exact r2
theorem take_k {Z : Nat → Prop} {o : Nat} {σ : KS} (hc : cB σ Z) (ho : o < 8) : ∀ (n k : Nat), o ≤ k → k ≤ 8 → 8 < n + k → (∀ j, o ≤ j → j < k → ∀ g, g < 128 → g % 2 ^ j = 0 → ¬ mx Z j g) →
    (∃ k' f σ', lst Z o k' f ∧ f_X0_takeBlock_2 n (nI o) (nI k) σ = some (nI f, σ') ∧ sam [4, 5] σ σ' ∧ cB σ' (zm Z o f)) ∨ (non Z o ∧ f_X0_takeBlock_2 n (nI o) (nI k) σ = some (-1, σ)) := by
  intro n
  induction n with
  | zero => intro k _ h1 h2; omega
  | succ n ih =>
    intro k h1 h2 h3 hno
    rw [f_X0_takeBlock_2]
    by_cases e : k = 8
    · subst e
      right
      refine ⟨fun j a b => hno j a b, ?_⟩
      rw [q7, if_pos (nI_lt (by omega) (by omega))]
    · have hk : k < 8 := by omega
      rw [q7, if_neg (nI_nlt (by omega) (by omega))]
      rcases leastOf_t hc hk with ⟨f, a, b, cx, d, r⟩ | ⟨d, r⟩
      · left
        obtain ⟨σ1, r1, s1, c1⟩ := cB_out hc hk a b cx
        obtain ⟨σ2, r2, s2, c2⟩ := take_l (x2 := k) (o := o) ho a FU k σ1 h1 hk (show k < 1100 by omega) b cx.1 c1
        refine ⟨k, f, σ2, ⟨h1, hk, a, b, cx, hno, d⟩, ?_, s1.trans s2, c2⟩
        rw [bnd_eq r, if_neg (nI_m1 (by omega)), bnd_eq r1]
        exact r2
      · rw [bnd_eq r, if_pos rfl, q1, nI_add]
        exact ih (k + 1) (by omega) (by omega) (by omega) (fun j a b => by
          rcases Nat.lt_or_ge j k with q | q
          · exact hno j a q
          · have : j = k := by omega
            subst this; exact d)
theorem take_X {Z : Nat → Prop} {o : Nat} {σ : KS} (hc : cB σ Z) (ho : o < 8) :
    (∃ k f σ', lst Z o k f ∧ m_X0_takeBlock (nI o) σ = some (nI f, σ') ∧ sam [4, 5] σ σ' ∧ cB σ' (zm Z o f)) ∨ (non Z o ∧ m_X0_takeBlock (nI o) σ = some (-1, σ)) :=
  take_k hc ho FU o (Nat.le_refl _) (by omega) (show 8 < 1100 + o by omega) (fun j a b => by omega)
/-- buddies -/
def bud (k f : Nat) : Nat := if f / 2 ^ k % 2 = 0 then f + 2 ^ k else f - 2 ^ k
def par (k f : Nat) : Nat := if f / 2 ^ k % 2 = 0 then f else f - 2 ^ k
theorem bud_1 : ∀ k, k < 7 → ∀ f, f < 128 → f % 2 ^ k = 0 → nI f ^^^ ((1 : Int32) <<< (nI k &&& 31)) = nI (bud k f) := by decide +kernel
theorem bud_2 : ∀ k, k < 7 → ∀ f, f < 128 → f % 2 ^ k = 0 → nI f &&& (((1 : Int32) <<< (nI k &&& 31)) ^^^ (-1)) = nI (par k f) := by decide +kernel
theorem bud_3 : ∀ k, k < 7 → ∀ f, f < 128 → f % 2 ^ k = 0 → bud k f < 128 ∧ bud k f % 2 ^ k = 0 := by decide +kernel
theorem bud_4 : ∀ k, k < 7 → ∀ f, f < 128 → f % 2 ^ k = 0 → par k f < 128 ∧ par k f % 2 ^ (k + 1) = 0 := by decide +kernel
theorem bud_5 : ∀ k, k < 7 → ∀ f, f < 128 → f % 2 ^ k = 0 → par k f / 2 ^ (k + 1) = f / 2 ^ (k + 1) := by decide +kernel
theorem bud_6 : ∀ k, k < 7 → ∀ f, f < 128 → f % 2 ^ k = 0 → bud k f / 2 ^ k = (if f / 2 ^ k % 2 = 0 then f / 2 ^ k + 1 else f / 2 ^ k - 1) := by decide +kernel
theorem bud_par (k : Nat) (hk : k < 7) (f : Nat) (hf : f < 128) (ha : f % 2 ^ k = 0) : nI f ^^^ ((1 : Int32) <<< (nI k &&& 31)) = nI (bud k f) ∧ nI f &&& (((1 : Int32) <<< (nI k &&& 31)) ^^^ (-1)) = nI (par k f) ∧ bud k f < 128 ∧ bud k f % 2 ^ k = 0 ∧ par k f < 128 ∧ par k f % 2 ^ (k + 1) = 0 ∧ par k f / 2 ^ (k + 1) = f / 2 ^ (k + 1) ∧ bud k f / 2 ^ k = (if f / 2 ^ k % 2 = 0 then f / 2 ^ k + 1 else f / 2 ^ k - 1) :=
  ⟨bud_1 k hk f hf ha, bud_2 k hk f hf ha, (bud_3 k hk f hf ha).1, (bud_3 k hk f hf ha).2, (bud_4 k hk f hf ha).1, (bud_4 k hk f hf ha).2, bud_5 k hk f hf ha, bud_6 k hk f hf ha⟩
theorem bud_sb {k f : Nat} (hk : k < 7) (hf : f < 128) (ha : f % 2 ^ k = 0) (i : Nat) : sb (k + 1) i f ↔ sb k i f ∨ sb k i (bud k f) := by
  have hb := (bud_par k hk f hf ha).2.2.2.2.2.2.2
  unfold sb
  rw [hb, Nat.pow_succ, ← Nat.div_div_eq_div_mul, ← Nat.div_div_eq_div_mul]
  generalize i / 2 ^ k = a
  generalize f / 2 ^ k = b
  split <;> omega
theorem bud_ns {k f : Nat} (hk : k < 7) (hf : f < 128) (ha : f % 2 ^ k = 0) : ¬ sb k (bud k f) f := by
  have hb := (bud_par k hk f hf ha).2.2.2.2.2.2.2
  unfold sb
  rw [hb]
  generalize f / 2 ^ k = b
  split <;> omega
theorem bud_z {Z : Nat → Prop} {k f : Nat} (hk : k < 7) (hf : f < 128) (ha : f % 2 ^ k = 0) : zm (zm Z k f) k (bud k f) = zm Z (k + 1) (par k f) := by
  have hp : sb (k + 1) (par k f) f := (bud_par k hk f hf ha).2.2.2.2.2.2.1
  funext i
  refine propext ?_
  unfold zm
  have h := bud_sb hk hf ha i
  constructor
  · intro q
    refine ⟨q.1.1, fun r => ?_⟩
    rcases h.mp (r.trans hp) with r | r
    · exact q.1.2 r
    · exact q.2 r
  · intro q
    exact ⟨⟨q.1, fun r => q.2 ((h.mpr (Or.inl r)).trans hp.symm)⟩, fun r => q.2 ((h.mpr (Or.inr r)).trans hp.symm)⟩
theorem bud_mx {Z : Nat → Prop} {k f : Nat} (hk : k < 7) (hf : f < 128) (ha : f % 2 ^ k = 0) : mx (zm Z k f) k (bud k f) ↔ af Z k (bud k f) := by
  constructor
  · intro h i hi; exact (h.1 i hi).1
  · intro h
    refine ⟨fun i hi => ⟨h i hi, fun q => bud_ns hk hf ha (hi.symm.trans q)⟩, Or.inr fun a => ?_⟩
    have : sb (k + 1) f (bud k f) := ((bud_sb hk hf ha (bud k f)).mpr (Or.inr sb.rfl')).symm
    exact (a f this).2 sb.rfl'
theorem bud_af {Z : Nat → Prop} {k f : Nat} (hk : k < 7) (hf : f < 128) (ha : f % 2 ^ k = 0) (h1 : af Z k f) : af Z (k + 1) f ↔ af Z k (bud k f) := by
  constructor
  · intro h i hi; exact h i ((bud_sb hk hf ha i).mpr (Or.inr hi))
  · intro h i hi
    rcases (bud_sb hk hf ha i).mp hi with q | q
    · exact h1 i q
    · exact h i q
theorem isFreeBlock_t {σ : KS} {k f : Nat} (hk : k < 8) (hf : f < 128) : m_X0_isFreeBlock (nI f) (nI k) σ = some (if σ.1 4 f = nI k then 1 else 0, σ) := by
  unfold m_X0_isFreeBlock
  rw [bnd_eq (isFrame_t hf), if_neg (by decide), chk_nI hf (by decide), rd_nI (by omega)]
  split <;> rfl
theorem give_l {Z : Nat → Prop} {x1 x2 : Int32} : ∀ (n k f : Nat) (σ : KS), k < 8 → 8 < n + k → f < 128 → f % 2 ^ k = 0 → af Z k f → cB σ (zm Z k f) →
    ∃ σ', f_X0_giveBlock_5 n x1 x2 (nI f) (nI k) σ = some (0, σ') ∧ sam [4, 5] σ σ' ∧ cB σ' Z := by
  intro n
  induction n with
  | zero => intro k f σ h1 h2; omega
  | succ n ih =>
    intro k f σ hk hn hf ha haf hc
    rw [f_X0_giveBlock_5]
    by_cases e : k = 7
    · subst e
      rw [q7, if_pos (nI_le (by omega) (by omega))]
      obtain ⟨σ1, r1, s1, c1⟩ := cB_in hc hk hf ha ⟨haf, Or.inl rfl⟩
      exact ⟨σ1, by rw [bnd_eq r1], s1, c1⟩
    · have hk7 : k < 7 := by omega
      obtain ⟨b1, b2, b3, b4, b5, b6, b7, b8⟩ := bud_par k hk7 f hf ha
      rw [q7, if_neg (nI_ge (by omega) (by omega)), b1, b2, bnd_eq (isFreeBlock_t hk b3)]
      have hiff : σ.1 4 (bud k f) = nI k ↔ af Z k (bud k f) := by
        rw [hc.1.1 _ k b3 hk, ← bud_mx hk7 hf ha]
        exact ⟨fun q => q.2, fun q => ⟨b4, q⟩⟩
      by_cases hO : σ.1 4 (bud k f) = nI k
      · rw [if_pos hO, if_neg (by decide)]
        have haf2 := hiff.mp hO
        obtain ⟨σ1, r1, s1, c1⟩ := cB_out hc hk b3 b4 ((bud_mx hk7 hf ha).mpr haf2)
        rw [bud_z hk7 hf ha] at c1
        obtain ⟨σ2, r2, s2, c2⟩ := ih (k + 1) (par k f) σ1 (by omega) (by omega) b5 b6 (((bud_af hk7 hf ha haf).mpr haf2).at b7) c1
        refine ⟨σ2, ?_, s1.trans s2, c2⟩
        rw [bnd_eq r1, q1, nI_add]
        exact r2
      · rw [if_neg hO, if_pos rfl]
        obtain ⟨σ1, r1, s1, c1⟩ := cB_in hc hk hf ha ⟨haf, Or.inr fun q => hO (hiff.mpr ((bud_af hk7 hf ha haf).mp q))⟩
        exact ⟨σ1, by rw [bnd_eq r1], s1, c1⟩
theorem give_X {Z : Nat → Prop} {k f : Nat} {σ : KS} (hk : k < 8) (hf : f < 128) (ha : f % 2 ^ k = 0) (haf : af Z k f) (hc : cB σ (zm Z k f)) : ∃ σ', m_X0_giveBlock (nI f) (nI k) σ = some (0, σ') ∧ sam [4, 5] σ σ' ∧ cB σ' Z :=
  give_l FU k f σ hk (show 8 < 1100 + k by omega) hf ha haf hc
