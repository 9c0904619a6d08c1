/-! PURE: calls that only look -/
theorem sN_ge {g : Nat → Nat} : ∀ {n p : Nat}, p < n → g p ≤ sN g n := by
  intro n
  induction n with
  | zero => intro p h; omega
  | succ n ih =>
    intro p h
    show g p ≤ sN g n + g n
    by_cases e : p = n
    · subst e; omega
    · have := ih (p := p) (by omega); omega
theorem sN_congr {g h : Nat → Nat} : ∀ {n : Nat}, (∀ i, i < n → g i = h i) → sN g n = sN h n := by
  intro n
  induction n with
  | zero => intro _; rfl
  | succ n ih => intro e; show _ + _ = _ + _; rw [ih (fun i hi => e i (by omega)), e n (by omega)]
theorem usr_pos {ρ : KS} {p k : Nat} (hp : p < 16) (hk : k < bk ρ p) : 0 < usr ρ (pgN ρ p k) := by
  have h1 := cn_pos (P := fun j => pgN ρ p j = pgN ρ p k) hk rfl
  have h2 := sN_ge (g := fun q => cn (fun j => pgN ρ q j = pgN ρ p k) (bk ρ q)) hp
  exact Nat.lt_of_lt_of_le h1 h2
theorem sh6_neg {b : Int32} (h : b < 0) : b >>> (6 &&& 31) < 0 := by
  rw [Int32.lt_iff_toInt_lt] at h ⊢
  rw [pk_shr b (6 &&& 31) 6 (by decide), Int.shiftRight_eq_div_pow]
  have h0 : (0 : Int32).toInt = 0 := rfl
  rw [h0] at h ⊢
  have : ((2 ^ 6 : Nat) : Int) = 64 := rfl
  rw [this]
  omega
theorem sh6_t {n : Nat} (h : n < 2 ^ 31) : nI n >>> ((6 : Int32) &&& 31) = nI (n / 64) := pk_shrN h (6 &&& 31) 6 (by decide)
theorem a63 {n : Nat} (h : n < 2 ^ 31) : nI n &&& 63 = nI (n % 64) := pk_andN (by omega) (m := 63) 6 (by decide)
/-- an address that a page of p holds, or not -/
theorem addr {σ ρ : KS} (h : Rel σ ρ) (a b : Int32) :
    (∃ p n, p < 16 ∧ a = nI p ∧ ρ.1 6 p = 1 ∧ b = nI n ∧ n < 2 ^ 31 ∧ n / 64 < bk ρ p ∧ m_X2_hasPage a (b >>> (6 &&& 31)) σ = some (1, σ) ∧ m_X3_has a b ρ = some (1, ρ)) ∨
    (m_X2_hasPage a (b >>> (6 &&& 31)) σ = some (0, σ) ∧ m_X3_has a b ρ = some (0, ρ)) := by
  have hP := h.2.2.2.1
  unfold m_X3_has
  rcases live_cases hP a with ⟨p, hp, rfl, hl, -, -, r2⟩ | ⟨r1, r2⟩
  · obtain ⟨-, -, -, b4, b5, -, -, -⟩ := hP p hp
    rw [bnd_eq r2, if_neg (by decide), hasPage_X hP hp hl]
    by_cases h0 : b < 0
    · right
      rw [if_pos h0, if_pos (sh6_neg h0)]
      exact ⟨rfl, rfl⟩
    · obtain ⟨n, hn, rfl⟩ := nI_of h0
      rw [if_neg h0, sh6_t hn, if_neg (show ¬ nI (n / 64) < 0 from nI_nlt (b := 0) (by omega) (by omega)), chk_nI hp (by decide), rd_nI (by omega), b4, q64, pk_div hn (by decide) (by decide)]
      by_cases hb : n / 64 < bk ρ p
      · left
        refine ⟨p, n, hp, rfl, hl, rfl, hn, hb, ?_, ?_⟩
        · rw [if_neg (nI_ge hb (by omega))]
        · rw [if_neg (nI_ge hb (by omega))]
      · right
        rw [if_pos (nI_le (by omega) (by omega)), if_pos (nI_le (by omega) (by omega))]
        exact ⟨rfl, rfl⟩
  · right
    rw [bnd_eq r2, if_pos rfl]
    exact ⟨hasPage_0 r1, rfl⟩
theorem sim_has : ∀ (a b : Int32) (σ ρ : KS), Rel σ ρ → ∃ (r : Int32) (σ' ρ' : KS), m_X2_has a b σ = some (r, σ') ∧ m_X3_has a b ρ = some (r, ρ') ∧ Rel σ' ρ' := by
  intro a b σ ρ h
  unfold m_X2_has
  rw [bnd_eq pageOf_t]
  rcases addr h a b with ⟨p, n, -, -, -, -, -, -, r1, r2⟩ | ⟨r1, r2⟩
  · rw [bnd_eq r1, r2, zchk_1]; exact ⟨1, σ, ρ, rfl, rfl, h⟩
  · rw [bnd_eq r1, r2, zchk_0]; exact ⟨0, σ, ρ, rfl, rfl, h⟩
theorem wordIndex_t {σ ρ : KS} (h : Rel σ ρ) {p n : Nat} (hp : p < 16) (hl : ρ.1 6 p = 1) (hn : n < 2 ^ 31) (hk : n / 64 < bk ρ p) : m_X2_wordIndex (nI p) (nI n) σ = some (nI (64 * pgN ρ p (n / 64) + n % 64), σ) := by
  obtain ⟨g1, -, -⟩ := h.2.2.2.2.2.2.1.1 p (n / 64) hp hk
  unfold m_X2_wordIndex
  rw [bnd_eq pageOf_t, sh6_t hn, bnd_eq (frameOfPage_t h hp hl hk), a63 hn, q64, pk_mul, nI_add, Nat.mul_comm]
theorem kind3 {σ ρ : KS} (h : Rel σ ρ) {p k : Nat} (hp : p < 16) (hk : k < bk ρ p) : pgN ρ p k < 128 ∧ ρ.1 2 (pgN ρ p k) = nI 3 := by
  have hG := h.2.2.2.2.2.2.1
  have h1 := (hG.1 p k hp hk).1
  exact ⟨h1, (hG.2.1 _ h1).2.mpr (usr_pos hp hk)⟩
theorem sim_load : ∀ (a b : Int32) (σ ρ : KS), Rel σ ρ → ∃ (r : Int32) (σ' ρ' : KS), m_X2_load a b σ = some (r, σ') ∧ m_X3_load a b ρ = some (r, ρ') ∧ Rel σ' ρ' := by
  intro a b σ ρ h
  unfold m_X2_load m_X3_load
  rw [bnd_eq pageOf_t]
  rcases addr h a b with ⟨p, n, hp, rfl, hl, rfl, hn, hk, r1, r2⟩ | ⟨r1, r2⟩
  · obtain ⟨g1, g2, -⟩ := h.2.2.2.2.2.2.1.1 p (n / 64) hp hk
    have b5 := (h.2.2.2.1 p hp).2.2.2.2.1
    have k3 := kind3 h hp hk
    rw [bnd_eq r1, if_neg (by decide), bnd_eq (wordIndex_t h hp hl hn hk), bnd_eq (wordAt_t (by omega)), bnd_eq r2, if_neg (by decide), q64, pk_rem hn (by decide) (by decide), pk_div hn (by decide) (by decide), q256, pk_mul, nI_add, chk_nI (by omega) (by decide), rd_nI (by omega), g2, pk_mul, nI_add, chk_nI (by omega) (by decide), rd_nI (by omega), h.2.2.2.2.2.2.1.2.2 _ _ g1 (by omega) k3.2]
    exact ⟨_, σ, ρ, rfl, rfl, h⟩
  · rw [bnd_eq r1, if_pos rfl, bnd_eq r2, if_pos rfl]; exact ⟨0, σ, ρ, rfl, rfl, h⟩
/-! counting processes -/
theorem countInState_l {σ : KS} {v : Int32} : ∀ (n i c : Nat), i ≤ 16 → 16 < n + i → c = cn (fun p => σ.1 11 p = v) i → f_X2_countInState_4 n v (nI c) (nI i) σ = some (nI (cn (fun p => σ.1 11 p = v) 16), σ) := by
  intro n
  induction n with
  | zero => intro i c h1 h2; omega
  | succ n ih =>
    intro i c h1 h2 hc
    rw [f_X2_countInState_4]
    by_cases e : i = 16
    · subst e; rw [if_pos (show (16 : Int32) ≤ nI 16 from nI_le (a := 16) (by omega) (by omega)), hc]
    · rw [if_neg (show ¬ (16 : Int32) ≤ nI i from nI_ge (b := 16) (by omega) (by omega)), chk_nI (by omega) (by decide), rd_nI (by omega), show nI i + 1 = nI (i + 1) from nI_1 i, show nI c + 1 = nI (c + 1) from nI_1 c]
      by_cases hv : σ.1 11 i = v
      · rw [if_pos hv]; exact ih (i + 1) (c + 1) (by omega) (by omega) (by rw [cn_s (P := fun p => σ.1 11 p = v) hv, hc])
      · rw [if_neg hv]; exact ih (i + 1) c (by omega) (by omega) (by rw [cn_s0 (P := fun p => σ.1 11 p = v) hv, hc])
theorem countInState_t {σ : KS} {v : Int32} : m_X2_countInState v σ = some (nI (cn (fun p => σ.1 11 p = v) 16), σ) := countInState_l FU 0 0 (by omega) (by decide) rfl
theorem told_l {ρ : KS} {x : Int32} : ∀ (n i c d : Nat), i ≤ 16 → 16 < n + i → c = cn (fun p => ρ.1 6 p = 1) i → d = cn (fun p => ρ.1 6 p = 2) i →
    f_X3_told_19 n x (nI c) (nI d) (nI i) ρ = (if x = 0 then some (nI (cn (fun p => ρ.1 6 p = 1) 16), ρ) else if x = 1 then some (nI (cn (fun p => ρ.1 6 p = 2) 16), ρ) else if x = 2 then some ((gv ρ 1), ρ) else if x = 3 then some ((gv ρ 2), ρ) else some ((gv ρ 3), ρ)) := by
  intro n
  induction n with
  | zero => intro i c d h1 h2; omega
  | succ n ih =>
    intro i c d h1 h2 hc hd
    rw [f_X3_told_19]
    by_cases e : i = 16
    · subst e; rw [if_pos (show (16 : Int32) ≤ nI 16 from nI_le (a := 16) (by omega) (by omega)), hc, hd]
    · rw [if_neg (show ¬ (16 : Int32) ≤ nI i from nI_ge (b := 16) (by omega) (by omega)), chk_nI (by omega) (by decide), chk_nI (by omega) (by decide), chk_nI (by omega) (by decide), rd_nI (by omega), show nI i + 1 = nI (i + 1) from nI_1 i, show nI c + 1 = nI (c + 1) from nI_1 c, show nI d + 1 = nI (d + 1) from nI_1 d, show nI c + 0 = nI (c + 0) from nI_add c 0, show nI d + 0 = nI (d + 0) from nI_add d 0]
      by_cases h1' : ρ.1 6 i = 1
      · have h2' : ¬ ρ.1 6 i = 2 := by rw [h1']; decide
        rw [if_pos h1', if_neg h2']
        exact ih (i + 1) (c + 1) (d + 0) (by omega) (by omega) (by rw [cn_s (P := fun p => ρ.1 6 p = 1) h1', hc]) (by rw [cn_s0 (P := fun p => ρ.1 6 p = 2) h2', hd]; rfl)
      · rw [if_neg h1']
        by_cases h2' : ρ.1 6 i = 2
        · rw [if_pos h2']
          exact ih (i + 1) (c + 0) (d + 1) (by omega) (by omega) (by rw [cn_s0 (P := fun p => ρ.1 6 p = 1) h1', hc]; rfl) (by rw [cn_s (P := fun p => ρ.1 6 p = 2) h2', hd])
        · rw [if_neg h2']
          exact ih (i + 1) (c + 0) (d + 0) (by omega) (by omega) (by rw [cn_s0 (P := fun p => ρ.1 6 p = 1) h1', hc]; rfl) (by rw [cn_s0 (P := fun p => ρ.1 6 p = 2) h2', hd]; rfl)
theorem sm5 {x : Int32} (h0 : ¬ x < 0) (h4 : x ≤ 4) : x = 0 ∨ x = 1 ∨ x = 2 ∨ x = 3 ∨ x = 4 := by
  obtain ⟨j, hj, rfl⟩ := nI_of2 (M := 4) (n := 4) rfl h0 h4
  rcases (show j = 0 ∨ j = 1 ∨ j = 2 ∨ j = 3 ∨ j = 4 by omega) with rfl | rfl | rfl | rfl | rfl
  · exact Or.inl rfl
  · exact Or.inr (Or.inl rfl)
  · exact Or.inr (Or.inr (Or.inl rfl))
  · exact Or.inr (Or.inr (Or.inr (Or.inl rfl)))
  · exact Or.inr (Or.inr (Or.inr (Or.inr rfl)))
theorem big5 {x : Int32} (h : x < 0 ∨ ¬ x ≤ 4) : ¬ x = 0 ∧ ¬ x = 1 ∧ ¬ x = 2 ∧ ¬ x = 3 ∧ ¬ x = 4 := by
  refine ⟨?_, ?_, ?_, ?_, ?_⟩ <;> (intro q; subst q; rcases h with h | h <;> revert h <;> decide)
theorem sim_told : ∀ (a : Int32) (σ ρ : KS), Rel σ ρ → ∃ (r : Int32) (σ' ρ' : KS), m_X2_told a σ = some (r, σ') ∧ m_X3_told a ρ = some (r, ρ') ∧ Rel σ' ρ' := by
  intro a σ ρ h
  have hP := h.2.2.2.1
  obtain ⟨s1, s2, s3⟩ := h.2.2.2.2.2.2.2.2
  have e : ∀ v, cn (fun p => σ.1 11 p = v) 16 = cn (fun p => ρ.1 6 p = v) 16 := fun v => cn_congr fun i hi => by rw [(hP i hi).1]
  unfold m_X2_told m_X3_told
  by_cases hb : a < 0 ∨ ¬ a ≤ 4
  · obtain ⟨b0, b1, b2, b3, b4⟩ := big5 hb
    rw [if_neg b0, if_neg b1, if_neg b2, if_neg b3, if_neg b4]
    refine ⟨-2, σ, ρ, rfl, ?_, h⟩
    rcases hb with q | q
    · rw [if_pos q]
    · rw [if_neg q]; split <;> rfl
  · have h0 : ¬ a < 0 := fun q => hb (Or.inl q)
    have h4 : a ≤ 4 := Classical.byContradiction fun q => hb (Or.inr q)
    rw [if_neg h0, if_pos h4, show f_X3_told_19 FU a 0 0 0 ρ = _ from told_l FU 0 0 0 (by omega) (by decide) rfl rfl]
    rcases sm5 h0 h4 with rfl | rfl | rfl | rfl | rfl
    · rw [if_pos rfl, if_pos rfl, bnd_eq countInState_t, e]; exact ⟨_, σ, ρ, rfl, rfl, h⟩
    · rw [if_neg (by decide), if_pos rfl, if_neg (by decide), if_pos rfl, bnd_eq countInState_t, e]; exact ⟨_, σ, ρ, rfl, rfl, h⟩
    · rw [if_neg (by decide), if_neg (by decide), if_pos rfl, if_neg (by decide), if_neg (by decide), if_pos rfl]; unfold gv; rw [s1]; exact ⟨_, σ, ρ, rfl, rfl, h⟩
    · rw [if_neg (by decide), if_neg (by decide), if_neg (by decide), if_pos rfl, if_neg (by decide), if_neg (by decide), if_neg (by decide), if_pos rfl]; unfold gv; rw [s2]; exact ⟨_, σ, ρ, rfl, rfl, h⟩
    · rw [if_neg (by decide), if_neg (by decide), if_neg (by decide), if_neg (by decide), if_pos rfl, if_neg (by decide), if_neg (by decide), if_neg (by decide), if_neg (by decide)]; unfold gv; rw [s3]; exact ⟨_, σ, ρ, rfl, rfl, h⟩
