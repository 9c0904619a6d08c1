/-! PURE: the reference takes a block and gives one back -/
theorem zchk_1 {k : KR} : zchk 1 k = k := by unfold zchk; rw [if_pos (Or.inr rfl)]
theorem zchk_0 {k : KR} : zchk 0 k = k := by unfold zchk; rw [if_pos (Or.inl rfl)]
theorem q128m {k f : Nat} : (128 : Int32) * nI k + nI f = nI (128 * k + f) := by rw [q128, pk_mul, nI_add]
theorem takeM_l {Z : Nat → Prop} {o f x2 : Nat} (ho : o < 8) (hf : f < 128) : ∀ (n j : Nat) (σ : KS), o ≤ j → j < 8 → j < n → f % 2 ^ j = 0 → af Z j f → canR (σ.1 1) (zm Z j f) →
    ∃ σ', f_X3_takeBlock_50 n (nI o) (nI x2) (nI f) (nI j - 1) σ = some (nI f, σ') ∧ sam [1] σ σ' ∧ canR (σ'.1 1) (zm Z o f) := by
  intro n
  induction n with
  | zero => intro j σ _ _ h; omega
  | succ n ih =>
    intro j σ h1 h2 h3 ha haf hc
    rw [f_X3_takeBlock_50]
    by_cases e : j = o
    · subst e
      refine ⟨σ, ?_, sam.refl, hc⟩
      cases j with
      | zero => rw [if_pos (m1_lt (by decide))]
      | succ j => rw [nI_pred, if_pos (nI_lt (by omega) (by omega))]
    · obtain ⟨i, rfl⟩ : ∃ i, j = i + 1 := ⟨j - 1, by omega⟩
      have hp := pw8 (show i < 8 by omega)
      have hle := al_le h2 hf ha
      have hup : f + 2 ^ i < 128 := by rw [Nat.pow_succ] at hle; omega
      rw [nI_pred, if_neg (nI_nlt (by omega) (by omega)), sh1 i (by omega), q128m, nI_add, chk_nI (by omega) (by decide), zchk_1, nI_s1]
      rw [half_z ha] at hc
      have c1 := canR_in (k := i) (by omega) hup (by rw [Nat.add_mod_right]; exact al_mono (Nat.le_succ i) ha) hc (half_mx ha haf)
      obtain ⟨σ2, r2, s2, c2⟩ := ih i (wr σ 1 (nI (128 * i + f + 2 ^ i)) 1) (by omega) (by omega) (by omega) (al_mono (Nat.le_succ i) ha) (haf.mono (Nat.le_succ i)) (by rw [wr_at (by omega), Nat.add_assoc]; exact c1)
      exact ⟨σ2, r2, (sam.wr (by decide)).trans s2, c2⟩
theorem takeM_f {Z : Nat → Prop} {o k : Nat} {σ : KS} {kk : Int32 → Int32 → KS → KR} (hc : canR (σ.1 1) Z) (ho : o < 8) (hok : o ≤ k) (hk : k < 8) : ∀ (n f : Nat), f ≤ 128 → 128 < n + f → (∀ g, g < f → g % 2 ^ k = 0 → ¬ mx Z k g) →
    (∃ f' σ', f' < 128 ∧ f' % 2 ^ k = 0 ∧ mx Z k f' ∧ (∀ g, g < f' → g % 2 ^ k = 0 → ¬ mx Z k g) ∧ f_X3_takeBlock_10 kk n (nI o) (nI k) (nI f) σ = some (nI f', σ') ∧ sam [1] σ σ' ∧ canR (σ'.1 1) (zm Z o f')) ∨
    ((∀ g, g < 128 → g % 2 ^ k = 0 → ¬ mx Z k g) ∧ f_X3_takeBlock_10 kk n (nI o) (nI k) (nI f) σ = kk (nI o) (nI (k + 1)) σ) := by
  intro n
  induction n with
  | zero => intro f h1 h2; omega
  | succ n ih =>
    intro f h1 h2 hno
    rw [f_X3_takeBlock_10]
    by_cases e : f = 128
    · subst e
      right
      refine ⟨hno, ?_⟩
      rw [q128, if_pos (nI_le (by omega) (by omega)), q1, nI_add]
    · have hf : f < 128 := by omega
      rw [if_neg (show ¬ (128 : Int32) ≤ nI f from nI_ge (b := 128) hf (by omega)), q128m, chk_nI (by omega) (by decide), rd_nI (by omega)]
      obtain ⟨c1, c2⟩ := hc f k hf hk
      rcases c1 with c0 | c0
      · rw [c0, if_pos rfl, q1, nI_add]
        exact ih (f + 1) (by omega) (by omega) (fun g a b d => by
          rcases Nat.lt_or_ge g f with q | q
          · exact hno g q b d
          · have : g = f := by omega
            subst this
            rw [c2.mpr ⟨b, d⟩] at c0
            exact absurd c0 (by decide))
      · left
        obtain ⟨m1, m2⟩ := c2.mp c0
        have d1 := canR_out hk hf m1 hc m2
        obtain ⟨σ2, r2, s2, d2⟩ := takeM_l (Z := Z) (x2 := k) ho hf FU k (wr σ 1 (nI (128 * k + f)) 0) hok hk (show k < 1100 by omega) m1 m2.1 (by rw [wr_at (by omega)]; exact d1)
        refine ⟨f, σ2, hf, m1, m2, hno, ?_, (sam.wr (by decide)).trans s2, d2⟩
        rw [c0, if_neg (by decide), chk_nI (by omega) (by decide), zchk_0]
        exact r2
theorem takeM_k {Z : Nat → Prop} {o : Nat} {σ : KS} (hc : canR (σ.1 1) Z) (ho : o < 8) : ∀ (n k : Nat), o ≤ k → k ≤ 8 → 8 < n + k → (∀ j, o ≤ j → j < k → ∀ g, g < 128 → g % 2 ^ j = 0 → ¬ mx Z j g) →
    (∃ k' f σ', lst Z o k' f ∧ f_X3_takeBlock_2 n (nI o) (nI k) σ = some (nI f, σ') ∧ sam [1] σ σ' ∧ canR (σ'.1 1) (zm Z o f)) ∨ (non Z o ∧ f_X3_takeBlock_2 n (nI o) (nI k) σ = some (-1, σ)) := by
  intro n
  induction n with
  | zero => intro k _ h1 h2; omega
  | succ n ih =>
    intro k h1 h2 h3 hno
    rw [f_X3_takeBlock_2]
    by_cases e : k = 8
    · subst e
      right
      refine ⟨fun j a b => hno j a b, ?_⟩
      rw [q8, if_pos (nI_le (by omega) (by omega))]
    · have hk : k < 8 := by omega
      rw [q8, if_neg (nI_ge (by omega) (by omega)), q0]
      rcases takeM_f (kk := fun y1 y2 σ => f_X3_takeBlock_2 n y1 y2 σ) hc ho h1 hk FU 0 (by omega) (by decide) (fun g a => by omega) with ⟨f, σ2, a, b, d, d2, r, s2, c2⟩ | ⟨d, r⟩
      · left
        exact ⟨k, f, σ2, ⟨h1, hk, a, b, d, hno, d2⟩, r, s2, c2⟩
      · rw [r]
        exact ih (k + 1) (by omega) (by omega) (by omega) (fun j a b => by
          rcases Nat.lt_or_ge j k with q | q
          · exact hno j a q
          · have : j = k := by omega
            subst this; exact d)
theorem take_M {Z : Nat → Prop} {o : Nat} {σ : KS} (hc : canR (σ.1 1) Z) (ho : o < 8) :
    (∃ k f σ', lst Z o k f ∧ m_X3_takeBlock (nI o) σ = some (nI f, σ') ∧ sam [1] σ σ' ∧ canR (σ'.1 1) (zm Z o f)) ∨ (non Z o ∧ m_X3_takeBlock (nI o) σ = some (-1, σ)) :=
  takeM_k hc ho FU o (Nat.le_refl _) (by omega) (show 8 < 1100 + o by omega) (fun j a b => by omega)
theorem giveM_l {Z : Nat → Prop} {x1 x2 x5 : Int32} : ∀ (n k f : Nat) (σ : KS), k < 8 → 8 < n + k → f < 128 → f % 2 ^ k = 0 → af Z k f → canR (σ.1 1) (zm Z k f) →
    ∃ σ', f_X3_giveBlock_32 n x1 x2 (nI f) (nI k) x5 σ = some (0, σ') ∧ sam [1] σ σ' ∧ canR (σ'.1 1) Z := by
  intro n
  induction n with
  | zero => intro k f σ h1 h2; omega
  | succ n ih =>
    intro k f σ hk hn hf ha haf hc
    rw [f_X3_giveBlock_32]
    by_cases e : k = 7
    · subst e
      refine ⟨wr σ 1 (nI (128 * 7 + f)) 1, ?_, sam.wr (by decide), ?_⟩
      · rw [if_pos (show (7 : Int32) ≤ nI 7 from nI_le (a := 7) (by omega) (by omega)), q128m, chk_nI (by omega) (by decide), zchk_1]
      · rw [wr_at (by omega)]; exact canR_in hk hf ha hc ⟨haf, Or.inl rfl⟩
    · have hk7 : k < 7 := by omega
      obtain ⟨b1, b2, b3, b4, b5, b6, b7, b8⟩ := bud_par k hk7 f hf ha
      rw [if_neg (show ¬ (7 : Int32) ≤ nI k from nI_ge (b := 7) (by omega) (by omega)), b1, b2, q128m, q128m, chk_nI (by omega) (by decide), rd_nI (by omega)]
      obtain ⟨c1, c2⟩ := hc (bud k f) k b3 hk
      rcases c1 with c0 | c0
      · refine ⟨wr σ 1 (nI (128 * k + f)) 1, ?_, sam.wr (by decide), ?_⟩
        · rw [c0, if_pos rfl, chk_nI (by omega) (by decide), zchk_1]
        · rw [wr_at (by omega)]
          refine canR_in hk hf ha hc ⟨haf, Or.inr fun q => ?_⟩
          rw [c2.mpr ⟨b4, (bud_mx hk7 hf ha).mpr ((bud_af hk7 hf ha haf).mp q)⟩] at c0
          exact absurd c0 (by decide)
      · have m2 := (c2.mp c0).2
        have haf2 := (bud_mx hk7 hf ha).mp m2
        have d1 := canR_out hk b3 b4 hc m2
        rw [bud_z hk7 hf ha] at d1
        obtain ⟨σ2, r2, s2, d2⟩ := ih (k + 1) (par k f) (wr σ 1 (nI (128 * k + bud k f)) 0) (by omega) (by omega) b5 b6 (((bud_af hk7 hf ha haf).mpr haf2).at b7) (by rw [wr_at (by omega)]; exact d1)
        refine ⟨σ2, ?_, (sam.wr (by decide)).trans s2, d2⟩
        rw [c0, if_neg (by decide), chk_nI (by omega) (by decide), zchk_0, q1, nI_add]
        exact r2
theorem giveM_f {Z : Nat → Prop} {k f : Nat} (hk : k < 8) (hf : f < 128) (ha : f % 2 ^ k = 0) (haf : af Z k f) : ∀ (n i : Nat) (σ : KS), f ≤ i → i ≤ f + 2 ^ k → f + 2 ^ k < n + i → canR (σ.1 1) (zm Z k f) →
    ∃ σ', f_X3_giveBlock_8 n (nI f) (nI k) (nI f) (nI k) (nI i) σ = some (0, σ') ∧ sam [1, 2] σ σ' ∧ canR (σ'.1 1) Z ∧ ∀ j, σ'.1 2 j = if i ≤ j ∧ j < f + 2 ^ k then 0 else σ.1 2 j := by
  have hle := al_le hk hf ha
  intro n
  induction n with
  | zero => intro i σ h1 h2 h3; omega
  | succ n ih =>
    intro i σ h1 h2 h3 hc
    rw [f_X3_giveBlock_8, sh1 k hk, nI_add]
    by_cases e : i = f + 2 ^ k
    · subst e
      rw [if_pos (nI_le (by omega) (by omega))]
      obtain ⟨σ1, r1, s1, c1⟩ := giveM_l (x1 := nI f) (x2 := nI k) (x5 := nI (f + 2 ^ k)) FU k f σ hk (show 8 < 1100 + k by omega) hf ha haf hc
      exact ⟨σ1, r1, s1.mono (by decide), c1, fun j => by rw [if_neg (by omega), s1.2 2 (by decide)]⟩
    · rw [if_neg (nI_ge (by omega) (by omega)), chk_nI (by omega) (by decide), q1, nI_add]
      obtain ⟨σ1, r1, s1, c1, d1⟩ := ih (i + 1) (wr σ 2 (nI i) 0) (by omega) (by omega) (by omega) (by rw [wr_ne (by decide)]; exact hc)
      refine ⟨σ1, r1, (sam.wr (by decide)).trans s1, c1, fun j => ?_⟩
      rw [d1, wr_at (by omega)]
      by_cases ej : j = i
      · subst ej; rw [if_neg (by omega), if_pos (by omega), upd_eq]
      · rw [upd_ne ej]
        by_cases q : i ≤ j ∧ j < f + 2 ^ k
        · rw [if_pos (by omega), if_pos q]
        · rw [if_neg (by omega), if_neg q]
theorem give_M {Z : Nat → Prop} {k f : Nat} {σ : KS} (hk : k < 8) (hf : f < 128) (ha : f % 2 ^ k = 0) (haf : af Z k f) (hc : canR (σ.1 1) (zm Z k f)) : ∃ σ', m_X3_giveBlock (nI f) (nI k) σ = some (0, σ') ∧ sam [1, 2] σ σ' ∧ canR (σ'.1 1) Z ∧ ∀ j, σ'.1 2 j = if f ≤ j ∧ j < f + 2 ^ k then 0 else σ.1 2 j :=
  giveM_f hk hf ha haf FU f σ (Nat.le_refl _) (by omega) (show f + 2 ^ k < 1100 + f by have := pw8 hk; omega) hc
