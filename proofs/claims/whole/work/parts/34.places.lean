/-! PURE: places: records and tables, four in a frame -/
theorem nI4 {a b : Nat} : nI a * 4 + nI b = nI (4 * a + b) := by rw [q4, pk_mul, nI_add, Nat.mul_comm]
theorem nI4' {a : Nat} : (4 : Int32) * nI a = nI (4 * a) := by rw [q4, pk_mul]
/-- the first free place -/
def fz (u : Nat → Int32) (f : Nat) : Nat := if u (4 * f) = 0 then 0 else if u (4 * f + 1) = 0 then 1 else if u (4 * f + 2) = 0 then 2 else if u (4 * f + 3) = 0 then 3 else 4
def lz (a : Nat) : Nat := if a / 1 % 2 = 0 then 0 else if a / 2 % 2 = 0 then 1 else if a / 4 % 2 = 0 then 2 else if a / 8 % 2 = 0 then 3 else 4
theorem nI_01 {n : Nat} (h : n < 2 ^ 31) : nI n = 0 ↔ n = 0 := nI_eq (a := n) (b := 0) h (by decide)
theorem freePlace_t {ρ : KS} {f : Nat} (hf : f < 128) : m_X3_freePlace (nI f) ρ = some (if fz (ρ.1 3) f < 4 then nI (4 * f + fz (ρ.1 3) f) else -1, ρ) := by
  have st : ∀ (n i : Nat), i < 4 → f_X3_freePlace_4 (n + 1) (nI f) (nI (4 * f + i)) ρ = if ρ.1 3 (4 * f + i) = 0 then some (nI (4 * f + i), ρ) else f_X3_freePlace_4 n (nI f) (nI (4 * f + (i + 1))) ρ := by
    intro n i hi
    rw [f_X3_freePlace_4, nI4', if_neg (show ¬ nI (4 * f) + 4 ≤ nI (4 * f + i) by rw [q4, nI_add]; exact nI_ge (by omega) (by omega)), chk_nI (by omega) (by decide), rd_nI (by omega), q1, nI_add, Nat.add_assoc]
  have en : ∀ n, f_X3_freePlace_4 (n + 1) (nI f) (nI (4 * f + 4)) ρ = some (-1, ρ) := by
    intro n
    rw [f_X3_freePlace_4, nI4', if_pos (show nI (4 * f) + 4 ≤ nI (4 * f + 4) by rw [q4, nI_add]; exact nI_le (by omega) (by omega))]
  unfold m_X3_freePlace
  rw [nI4', show FU = 1095 + 1 + 1 + 1 + 1 + 1 from rfl, show nI (4 * f) = nI (4 * f + 0) from rfl, st _ 0 (by omega), st _ 1 (by omega), st _ 2 (by omega), st _ 3 (by omega), en]
  unfold fz
  by_cases h0 : ρ.1 3 (4 * f) = 0
  · simp [h0]
  by_cases h1 : ρ.1 3 (4 * f + 1) = 0
  · simp [h0, h1]
  by_cases h2 : ρ.1 3 (4 * f + 2) = 0
  · simp [h0, h1, h2]
  by_cases h3 : ρ.1 3 (4 * f + 3) = 0
  · simp [h0, h1, h2, h3]
  · simp [h0, h1, h2, h3]
theorem smallIn_t {ρ : KS} {f : Nat} (hf : f < 128) (h01 : ∀ i, i < 4 → ρ.1 3 (4 * f + i) = 0 ∨ ρ.1 3 (4 * f + i) = 1) : m_X3_smallIn (nI f) ρ = some (nI (cn (fun i => ρ.1 3 (4 * f + i) = 1) 4), ρ) := by
  have st : ∀ (i n c : Nat), i ≤ 4 → 4 < n + i → f_X3_smallIn_6 n (nI f) (nI (cn (fun i => ρ.1 3 (4 * f + i) = 1) i)) (nI (4 * f + i)) ρ = some (nI (cn (fun i => ρ.1 3 (4 * f + i) = 1) 4), ρ) := by
    intro i n
    induction n generalizing i with
    | zero => intro c h1 h2; omega
    | succ n ih =>
      intro c h1 h2
      rw [f_X3_smallIn_6, nI4']
      by_cases e : i = 4
      · subst e
        rw [if_pos (show nI (4 * f) + 4 ≤ nI (4 * f + 4) by rw [q4, nI_add]; exact nI_le (by omega) (by omega))]
      · rw [if_neg (show ¬ nI (4 * f) + 4 ≤ nI (4 * f + i) by rw [q4, nI_add]; exact nI_ge (by omega) (by omega)), chk_nI (by omega) (by decide), rd_nI (by omega), show nI (4 * f + i) + 1 = nI (4 * f + (i + 1)) from nI_1 _]
        have ih' := ih (i + 1) 0 (by omega) (by omega)
        rcases h01 i (by omega) with q | q
        · rw [q, if_pos rfl, q0, nI_add, Nat.add_zero]
          rw [cn_s0 (P := fun i => ρ.1 3 (4 * f + i) = 1) (n := i) (by rw [q]; decide)] at ih'
          exact ih'
        · rw [q, if_neg (by decide), q1, nI_add]
          rw [cn_s (P := fun i => ρ.1 3 (4 * f + i) = 1) (n := i) q] at ih'
          exact ih'
  unfold m_X3_smallIn
  rw [nI4']
  exact st 0 FU 0 (by omega) (by decide)
theorem bit_t : ∀ a, a < 16 → ∀ i, i < 4 → (nI a &&& ((1 : Int32) <<< (nI i &&& 31)) = 0 ↔ a / 2 ^ i % 2 = 0) := by decide +kernel
theorem bit_s : ∀ a, a < 16 → ∀ i, i < 4 → a / 2 ^ i % 2 = 0 → nI a ||| ((1 : Int32) <<< (nI i &&& 31)) = nI (a + 2 ^ i) := by decide +kernel
theorem bit_c : ∀ a, a < 16 → ∀ i, i < 4 → a / 2 ^ i % 2 = 1 → nI a &&& (((1 : Int32) <<< (nI i &&& 31)) ^^^ (-1)) = nI (a - 2 ^ i) := by decide +kernel
theorem bit_a : ∀ a, a < 16 → ∀ i, i < 4 → a / 2 ^ i % 2 = 0 → a + 2 ^ i < 16 ∧ ∀ j, j < 4 → (a + 2 ^ i) / 2 ^ j % 2 = if j = i then 1 else a / 2 ^ j % 2 := by decide +kernel
theorem bit_r : ∀ a, a < 16 → ∀ i, i < 4 → a / 2 ^ i % 2 = 1 → a - 2 ^ i < 16 ∧ ∀ j, j < 4 → (a - 2 ^ i) / 2 ^ j % 2 = if j = i then 0 else a / 2 ^ j % 2 := by decide +kernel
theorem bit_0 : ∀ a, a < 16 → ((∀ j, j < 4 → a / 2 ^ j % 2 = 0) ↔ a = 0) := by decide +kernel
theorem lz_15 : ∀ a, a < 16 → (lz a < 4 ↔ a ≠ 15) := by decide +kernel
theorem lz_b : ∀ a, a < 16 → lz a < 4 → a / 2 ^ lz a % 2 = 0 := by decide +kernel
theorem cnt_t : ∀ a, a < 16 → ∀ σ : KS, m_J6_bitCount_0f7a4 (nI a) σ = some (nI (a / 1 % 2 + a / 2 % 2 + a / 4 % 2 + a / 8 % 2), σ) := by
  intro a ha σ
  rcases (show a = 0 ∨ a = 1 ∨ a = 2 ∨ a = 3 ∨ a = 4 ∨ a = 5 ∨ a = 6 ∨ a = 7 ∨ a = 8 ∨ a = 9 ∨ a = 10 ∨ a = 11 ∨ a = 12 ∨ a = 13 ∨ a = 14 ∨ a = 15 by omega) with rfl | rfl | rfl | rfl | rfl | rfl | rfl | rfl | rfl | rfl | rfl | rfl | rfl | rfl | rfl | rfl <;> rfl
/-- the frames that are free -/
def zs (ρ : KS) : Nat → Prop := fun i => i < 128 ∧ ρ.1 2 i = 0
/-- places of the sort s: the class's row u, the reference's kinds and used places -/
def pS (s u : Nat) (σ ρ : KS) : Prop := ∀ f, f < 128 → ∃ a, a < 16 ∧ σ.1 u f = nI a ∧ (ρ.1 2 f = nI s ↔ a ≠ 0) ∧ (a ≠ 0 → ∀ i, i < 4 → ρ.1 3 (4 * f + i) = nI (a / 2 ^ i % 2))
def pO (ρ : KS) : Prop := ∀ f, f < 128 → ¬ ρ.1 2 f = nI 1 → ¬ ρ.1 2 f = nI 2 → ∀ i, i < 4 → ρ.1 3 (4 * f + i) = 0
def rB (σ ρ : KS) : Prop := cB σ (zs ρ) ∧ canR (ρ.1 1) (zs ρ) ∧ pS 1 6 σ ρ ∧ pS 2 7 σ ρ ∧ pO ρ
theorem fz_lz {u : Nat → Int32} {f a : Nat} (ha : a < 16) (h : ∀ i, i < 4 → u (4 * f + i) = nI (a / 2 ^ i % 2)) : fz u f = lz a := by
  have e : ∀ i, i < 4 → (u (4 * f + i) = 0 ↔ a / 2 ^ i % 2 = 0) := fun i hi => by rw [h i hi]; exact nI_01 (by omega)
  unfold fz lz
  rw [show u (4 * f) = u (4 * f + 0) from rfl]
  simp only [e 0 (by omega), e 1 (by omega), e 2 (by omega), e 3 (by omega)]
theorem sb0 {i f : Nat} : sb 0 i f ↔ i = f := by unfold sb; simp
theorem takeFrame_M {ρ : KS} {s : Nat} (hs : 0 < s) (hs5 : s < 5) (hc : canR (ρ.1 1) (zs ρ)) :
    (∃ k f ρ', lst (zs ρ) 0 k f ∧ m_X3_takeFrame (nI s) ρ = some (nI f, ρ') ∧ sam [1, 2] ρ ρ' ∧ ρ'.1 2 = upd (ρ.1 2) f (nI s) ∧ canR (ρ'.1 1) (zs ρ') ∧ zs ρ' = zm (zs ρ) 0 f) ∨ (non (zs ρ) 0 ∧ m_X3_takeFrame (nI s) ρ = some (-1, ρ)) := by
  unfold m_X3_takeFrame
  rw [q0]
  rcases take_M hc (o := 0) (by decide) with ⟨k, f, ρ1, hl, r, hsam, hc1⟩ | ⟨hn, r⟩
  · left
    have hf : f < 128 := hl.2.2.1
    have e2 : (wr ρ1 2 (nI f) (nI s)).1 2 = upd (ρ.1 2) f (nI s) := by rw [wr_at (by omega), hsam.2 2 (by decide)]
    have ez : zs (wr ρ1 2 (nI f) (nI s)) = zm (zs ρ) 0 f := by
      funext i
      refine propext ?_
      unfold zs zm
      rw [e2, sb0]
      by_cases e : i = f
      · subst e
        rw [upd_eq]
        exact ⟨fun q => absurd ((nI_01 (by omega)).mp q.2) (by omega), fun q => absurd rfl q.2⟩
      · rw [upd_ne e]
        exact ⟨fun q => ⟨q, e⟩, fun q => q.1⟩
    refine ⟨k, f, wr ρ1 2 (nI f) (nI s), hl, ?_, (hsam.mono (by decide)).trans (sam.wr (by decide)), e2, ?_, ez⟩
    · rw [bnd_eq r, if_neg (nI_nlt (by omega) (by omega)), chk_nI hf (by decide)]
    · rw [ez, wr_ne (by decide)]; exact hc1
  · right
    refine ⟨hn, ?_⟩
    rw [bnd_eq r, if_pos (by decide)]
theorem takeSmall_l {ρ : KS} {s : Nat} (hs : s < 5) : ∀ (n f : Nat), f ≤ 128 → 129 < n + f →
    (∃ h, f ≤ h ∧ h < 128 ∧ ρ.1 2 h = nI s ∧ fz (ρ.1 3) h < 4 ∧ (∀ g, f ≤ g → g < h → ¬ (ρ.1 2 g = nI s ∧ fz (ρ.1 3) g < 4)) ∧ f_X3_takeSmall_4 n (nI s) (-1) (nI f) ρ = some (nI (4 * h + fz (ρ.1 3) h), wr ρ 3 (nI (4 * h + fz (ρ.1 3) h)) 1)) ∨
    ((∀ g, f ≤ g → g < 128 → ¬ (ρ.1 2 g = nI s ∧ fz (ρ.1 3) g < 4)) ∧ f_X3_takeSmall_4 n (nI s) (-1) (nI f) ρ = bnd (m_X3_takeFrame (nI s) ρ) (fun r_47 σ_47 => if 0 ≤ r_47 then
    if (4 * r_47) < 0 then
    some ((4 * r_47), σ_47)
    else chk (4 * r_47) 512 (zchk 1 (some ((4 * r_47), (wr σ_47 3 (4 * r_47) 1))))
    else some ((-1), σ_47))) := by
  intro n
  induction n with
  | zero => intro f h1 h2; omega
  | succ n ih =>
    intro f h1 h2
    rw [f_X3_takeSmall_4]
    by_cases e : f = 128
    · subst e
      right
      refine ⟨fun g a b => by omega, ?_⟩
      rw [if_pos (show (128 : Int32) ≤ nI 128 from nI_le (a := 128) (by omega) (by omega)), if_neg (show ¬ (0 : Int32) ≤ -1 by decide)]
    · have hf : f < 128 := by omega
      have step : ∀ x, ¬ (ρ.1 2 f = nI s ∧ fz (ρ.1 3) f < 4) → x = f_X3_takeSmall_4 n (nI s) (-1) (nI (f + 1)) ρ →
          (∃ h, f ≤ h ∧ h < 128 ∧ ρ.1 2 h = nI s ∧ fz (ρ.1 3) h < 4 ∧ (∀ g, f ≤ g → g < h → ¬ (ρ.1 2 g = nI s ∧ fz (ρ.1 3) g < 4)) ∧ x = some (nI (4 * h + fz (ρ.1 3) h), wr ρ 3 (nI (4 * h + fz (ρ.1 3) h)) 1)) ∨
          ((∀ g, f ≤ g → g < 128 → ¬ (ρ.1 2 g = nI s ∧ fz (ρ.1 3) g < 4)) ∧ x = bnd (m_X3_takeFrame (nI s) ρ) (fun r_47 σ_47 => if 0 ≤ r_47 then
            if (4 * r_47) < 0 then some ((4 * r_47), σ_47) else chk (4 * r_47) 512 (zchk 1 (some ((4 * r_47), (wr σ_47 3 (4 * r_47) 1)))) else some ((-1), σ_47))) := by
        intro x hno hx
        subst hx
        rcases ih (f + 1) (by omega) (by omega) with ⟨h, a, b, c, d, g0, r⟩ | ⟨g0, r⟩
        · left
          refine ⟨h, by omega, b, c, d, fun g a1 b1 => ?_, r⟩
          rcases Nat.lt_or_ge f g with q | q
          · exact g0 g q b1
          · have : g = f := by omega
            subst this; exact hno
        · right
          refine ⟨fun g a1 b1 => ?_, r⟩
          rcases Nat.lt_or_ge f g with q | q
          · exact g0 g q b1
          · have : g = f := by omega
            subst this; exact hno
      rw [if_neg (show ¬ (128 : Int32) ≤ nI f from nI_ge (b := 128) hf (by omega)), if_neg (show ¬ (0 : Int32) ≤ -1 by decide), chk_nI hf (by decide), rd_nI (by omega), q1, nI_add]
      by_cases hk : ρ.1 2 f = nI s
      · rw [if_pos hk, bnd_eq (freePlace_t hf)]
        by_cases hz : fz (ρ.1 3) f < 4
        · left
          refine ⟨f, Nat.le_refl _, hf, hk, hz, fun g a b => by omega, ?_⟩
          rw [if_pos hz]
          obtain ⟨n', rfl⟩ : ∃ n', n = n' + 1 := ⟨n - 1, by omega⟩
          rw [f_X3_takeSmall_4]
          generalize hp : 4 * f + fz (ρ.1 3) f = p
          have hp5 : p < 512 := by omega
          rw [q0, if_pos (show nI 0 ≤ nI p from nI_le (by omega) (by omega)), if_pos (show nI 0 ≤ nI p from nI_le (by omega) (by omega)), if_neg (show ¬ nI p < nI 0 from nI_nlt (by omega) (by omega)), chk_nI hp5 (by decide), ← q1, zchk_1]
          split <;> rfl
        · rw [if_neg hz]
          exact step _ (fun q => hz q.2) rfl
      · rw [if_neg hk]
        exact step _ (fun q => hk q.1) rfl
theorem takeSmall_M {ρ : KS} {s : Nat} (hs0 : 0 < s) (hs : s < 5) (hc : canR (ρ.1 1) (zs ρ)) :
    (∃ h, h < 128 ∧ ρ.1 2 h = nI s ∧ fz (ρ.1 3) h < 4 ∧ (∀ g, g < h → ¬ (ρ.1 2 g = nI s ∧ fz (ρ.1 3) g < 4)) ∧ m_X3_takeSmall (nI s) ρ = some (nI (4 * h + fz (ρ.1 3) h), wr ρ 3 (nI (4 * h + fz (ρ.1 3) h)) 1)) ∨
    ((∀ g, g < 128 → ¬ (ρ.1 2 g = nI s ∧ fz (ρ.1 3) g < 4)) ∧
      ((∃ k f ρ', lst (zs ρ) 0 k f ∧ m_X3_takeSmall (nI s) ρ = some (nI (4 * f), wr ρ' 3 (nI (4 * f)) 1) ∧ sam [1, 2] ρ ρ' ∧ ρ'.1 2 = upd (ρ.1 2) f (nI s) ∧ canR (ρ'.1 1) (zs ρ') ∧ zs ρ' = zm (zs ρ) 0 f) ∨ (non (zs ρ) 0 ∧ m_X3_takeSmall (nI s) ρ = some (-1, ρ)))) := by
  rcases takeSmall_l (ρ := ρ) hs FU 0 (by omega) (by decide) with ⟨h, a, b, c, d, g0, r⟩ | ⟨g0, r⟩
  · left
    exact ⟨h, b, c, d, fun g q => g0 g (Nat.zero_le _) q, r⟩
  · right
    refine ⟨fun g q => g0 g (Nat.zero_le _) q, ?_⟩
    have r : m_X3_takeSmall (nI s) ρ = _ := r
    rcases takeFrame_M hs0 hs hc with ⟨k, f, ρ', hl, r2, h3, h4, h5, h6⟩ | ⟨hn, r2⟩
    · left
      have hf : f < 128 := hl.2.2.1
      refine ⟨k, f, ρ', hl, ?_, h3, h4, h5, h6⟩
      rw [r, bnd_eq r2, if_pos (show (0 : Int32) ≤ nI f from nI_le (a := 0) (by omega) (by omega)), nI4', if_neg (show ¬ nI (4 * f) < 0 from nI_nlt (b := 0) (by omega) (by omega)), chk_nI (by omega) (by decide), zchk_1]
    · right
      refine ⟨hn, ?_⟩
      rw [r, bnd_eq r2, if_neg (by decide)]
