/-! PURE: about, users, kinds -/
theorem users_k {ρ : KS} {f p : Nat} {kk : Int32 → Int32 → Int32 → KS → KR} (hp : p < 16) (h7 : ρ.1 7 p = nI (bk ρ p)) (hb : bk ρ p ≤ 256) (hl : ¬ ρ.1 6 p = 1 → bk ρ p = 0) (hg : ∀ k, k < bk ρ p → ρ.1 11 (256 * p + k) = nI (pgN ρ p k) ∧ pgN ρ p k < 128) (hf : f < 128) (c0 : Nat) : ∀ (n k : Nat), k ≤ bk ρ p → bk ρ p < n + k →
    f_X3_users_13 kk n (nI f) (nI (c0 + cn (fun k => pgN ρ p k = f) k)) (nI p) (nI k) ρ = kk (nI f) (nI (c0 + cn (fun k => pgN ρ p k = f) (bk ρ p))) (nI (p + 1)) ρ := by
  intro n
  induction n with
  | zero => intro k a b; omega
  | succ n ih =>
    intro k a b
    rw [f_X3_users_13, chk_nI hp (by decide), rd_nI (by omega), h7, show nI p + 1 = nI (p + 1) from nI_1 p]
    by_cases e : k = bk ρ p
    · subst e; rw [if_pos (nI_le (Nat.le_refl _) (by omega))]
    · have hk : k < bk ρ p := by omega
      have hlv : ρ.1 6 p = 1 := Classical.byContradiction fun q => by have := hl q; omega
      rw [if_neg (nI_ge hk (by omega)), chk_nI hp (by decide), rd_nI (by omega), if_pos hlv, q256, pk_mul, nI_add, chk_nI (by omega) (by decide), rd_nI (by omega), (hg k hk).1, show nI k + 1 = nI (k + 1) from nI_1 k]
      by_cases hv : pgN ρ p k = f
      · rw [if_pos (by rw [hv]), show nI (c0 + cn (fun k => pgN ρ p k = f) k) + 1 = nI (c0 + cn (fun k => pgN ρ p k = f) (k + 1)) by rw [cn_s (P := fun k => pgN ρ p k = f) hv]; exact nI_1 _]
        exact ih (k + 1) hk (by omega)
      · rw [if_neg (fun q => hv ((nI_eq (by have := (hg k hk).2; omega) (by omega)).mp q)), show nI (c0 + cn (fun k => pgN ρ p k = f) k) + 0 = nI (c0 + cn (fun k => pgN ρ p k = f) (k + 1)) by rw [cn_s0 (P := fun k => pgN ρ p k = f) hv]; exact nI_add _ 0]
        exact ih (k + 1) hk (by omega)
def uOK (ρ : KS) : Prop := ∀ p, p < 16 → ρ.1 7 p = nI (bk ρ p) ∧ bk ρ p ≤ 256 ∧ (¬ ρ.1 6 p = 1 → bk ρ p = 0) ∧ ∀ k, k < bk ρ p → ρ.1 11 (256 * p + k) = nI (pgN ρ p k) ∧ pgN ρ p k < 128
theorem Rel.u {σ ρ : KS} (h : Rel σ ρ) : uOK ρ := by
  intro p hp
  obtain ⟨-, -, -, p4, p5, p6, -, -⟩ := h.2.2.2.1 p hp
  exact ⟨p4, p5, p6, fun k hk => ⟨(h.2.2.2.2.2.2.1.1 p k hp hk).2.1, (h.2.2.2.2.2.2.1.1 p k hp hk).1⟩⟩
theorem users_p {ρ : KS} {f : Nat} (hu : uOK ρ) (hf : f < 128) : ∀ (n p : Nat), p ≤ 16 → 16 < n + p → f_X3_users_4 n (nI f) (nI (sN (fun p => cn (fun k => pgN ρ p k = f) (bk ρ p)) p)) (nI p) ρ = some (nI (usr ρ f), ρ) := by
  intro n
  induction n with
  | zero => intro p a b; omega
  | succ n ih =>
    intro p a b
    rw [f_X3_users_4]
    by_cases e : p = 16
    · subst e; rw [if_pos (show (16 : Int32) ≤ nI 16 from nI_le (a := 16) (by omega) (by omega))]; rfl
    · have hp : p < 16 := by omega
      obtain ⟨u1, u2, u3, u4⟩ := hu p hp
      rw [if_neg (show ¬ (16 : Int32) ≤ nI p from nI_ge (b := 16) hp (by omega))]
      have := users_k (kk := fun y1 y2 y3 σ => f_X3_users_4 n y1 y2 y3 σ) hp u1 u2 u3 u4 hf (sN (fun p => cn (fun k => pgN ρ p k = f) (bk ρ p)) p) FU 0 (by omega) (show bk ρ p < 1100 + 0 by omega)
      rw [show f_X3_users_13 (fun y1 y2 y3 σ => f_X3_users_4 n y1 y2 y3 σ) FU (nI f) (nI (sN (fun p => cn (fun k => pgN ρ p k = f) (bk ρ p)) p)) (nI p) 0 ρ = _ from this]
      exact ih (p + 1) (by omega) (by omega)
theorem users_t {ρ : KS} {f : Nat} (hu : uOK ρ) (hf : f < 128) : m_X3_users (nI f) ρ = some (nI (usr ρ f), ρ) := users_p hu hf FU 0 (by omega) (by decide)
theorem shs : ∀ k, k < 8 → ∀ f, f < 128 → (nI f >>> (nI k &&& 31)) <<< (nI k &&& 31) = nI (f / 2 ^ k * 2 ^ k) := by decide +kernel
theorem shs_b : ∀ k, k < 8 → ∀ f, f < 128 → f / 2 ^ k * 2 ^ k < 128 := by decide +kernel
theorem isKernels_l {σ : KS} {f : Nat} (hf : f < 128) : ∀ (n k : Nat), k ≤ 8 → 8 < n + k →
    (∃ j, k ≤ j ∧ j < 8 ∧ σ.1 10 (f / 2 ^ j * 2 ^ j) = nI j ∧ f_X2_isKernels_2 n (nI f) (nI k) σ = some (1, σ)) ∨ ((∀ j, k ≤ j → j < 8 → ¬ σ.1 10 (f / 2 ^ j * 2 ^ j) = nI j) ∧ f_X2_isKernels_2 n (nI f) (nI k) σ = some (0, σ)) := by
  intro n
  induction n with
  | zero => intro k a b; omega
  | succ n ih =>
    intro k a b
    rw [f_X2_isKernels_2]
    by_cases e : k = 8
    · subst e
      right
      exact ⟨fun j a b => by omega, by rw [if_pos (show (7 : Int32) < nI 8 from nI_lt (a := 7) (by omega) (by omega))]⟩
    · have hk : k < 8 := by omega
      have hb := shs_b k hk f hf
      rw [if_neg (show ¬ (7 : Int32) < nI k from nI_nlt (a := 7) (by omega) (by omega)), shs k hk f hf, bnd_eq (isFrame_t hb), if_neg (by decide), chk_nI hb (by decide), rd_nI (by omega), show nI k + 1 = nI (k + 1) from nI_1 k]
      by_cases hv : σ.1 10 (f / 2 ^ k * 2 ^ k) = nI k
      · left; exact ⟨k, Nat.le_refl _, hk, hv, by rw [if_pos hv]⟩
      · rw [if_neg hv]
        rcases ih (k + 1) (by omega) (by omega) with ⟨j, j1, j2, j3, r⟩ | ⟨j1, r⟩
        · left; exact ⟨j, by omega, j2, j3, r⟩
        · right
          refine ⟨fun j ja jb => ?_, r⟩
          rcases Nat.lt_or_ge k j with w | w
          · exact j1 j w jb
          · rw [show j = k by omega]; exact hv
theorem isKernels_t {σ ρ : KS} (h : rK σ ρ) {f : Nat} (hf : f < 128) : m_X2_isKernels (nI f) σ = some (if ρ.1 2 f = nI 4 then 1 else 0, σ) := by
  rcases isKernels_l (σ := σ) hf FU 0 (by omega) (by decide) with ⟨j, -, j2, j3, r⟩ | ⟨j1, r⟩
  · have hb := shs_b j j2 f hf
    rw [h.1 _ hb] at j3
    have : ρ.1 2 f = nI 4 := (h.2.2.1 f hf).mpr ⟨j, f / 2 ^ j * 2 ^ j, j2, hb, Nat.mul_mod_left _ _, by unfold sb; rw [Nat.mul_div_cancel _ (Nat.two_pow_pos j)], j3⟩
    rw [if_pos this]; exact r
  · have : ¬ ρ.1 2 f = nI 4 := by
      intro q
      obtain ⟨k, g, k1, g1, g2, g3, g4⟩ := (h.2.2.1 f hf).mp q
      have e : f / 2 ^ k * 2 ^ k = g := by
        unfold sb at g3
        rw [g3]
        have := Nat.div_add_mod g (2 ^ k)
        rw [g2, Nat.mul_comm] at this
        omega
      refine j1 k (Nat.zero_le _) k1 ?_
      rw [e, h.1 g g1]; exact g4
    rw [if_neg this]; exact r
theorem countIn_r {σ : KS} {f a : Nat} (hf : f < 128) (ha : a < 16) (h : σ.1 6 f = nI a) : m_X1r_countIn (nI f) σ = some (nI (a / 1 % 2 + a / 2 % 2 + a / 4 % 2 + a / 8 % 2), σ) := by
  unfold m_X1r_countIn
  rw [bnd_eq (isFrame_t hf), if_neg (by decide), chk_nI hf (by decide), rd_nI (by omega), h, bnd_eq (cnt_t a ha σ)]
theorem countIn_t {σ : KS} {f a : Nat} (hf : f < 128) (ha : a < 16) (h : σ.1 7 f = nI a) : m_X1t_countIn (nI f) σ = some (nI (a / 1 % 2 + a / 2 % 2 + a / 4 % 2 + a / 8 % 2), σ) := by
  unfold m_X1t_countIn
  rw [bnd_eq (isFrame_t hf), if_neg (by decide), chk_nI hf (by decide), rd_nI (by omega), h, bnd_eq (cnt_t a ha σ)]
theorem pop_0 : ∀ a, a < 16 → (a / 1 % 2 + a / 2 % 2 + a / 4 % 2 + a / 8 % 2 = 0 ↔ a = 0) := by decide +kernel
theorem pop_u {u : Nat → Int32} {f a : Nat} (h : ∀ i, i < 4 → u (4 * f + i) = nI (a / 2 ^ i % 2)) : cn (fun i => u (4 * f + i) = 1) 4 = a / 1 % 2 + a / 2 % 2 + a / 4 % 2 + a / 8 % 2 := by
  have e : ∀ i, i < 4 → cn (fun i => u (4 * f + i) = 1) (i + 1) = cn (fun i => u (4 * f + i) = 1) i + a / 2 ^ i % 2 := by
    intro i hi
    rcases (show a / 2 ^ i % 2 = 0 ∨ a / 2 ^ i % 2 = 1 by omega) with q | q
    · rw [cn_s0 (P := fun i => u (4 * f + i) = 1) (by rw [h i hi, q]; decide), q]; rfl
    · rw [cn_s (P := fun i => u (4 * f + i) = 1) (by rw [h i hi, q]; rfl), q]
  rw [e 3 (by decide), e 2 (by decide), e 1 (by decide), e 0 (by decide)]
  show 0 + _ + _ + _ + _ = _
  simp
theorem nI_le0 {n : Nat} (h : n < 2 ^ 31) : nI n ≤ 0 ↔ n = 0 := by
  rw [show (nI n ≤ 0 ↔ n = 0) = (nI n ≤ nI 0 ↔ n = 0) from rfl, nI_leI h (by decide)]
  omega
theorem usr_le {ρ : KS} (hu : uOK ρ) (f : Nat) : usr ρ f ≤ 4096 := by
  have key : ∀ n, n ≤ 16 → sN (fun p => cn (fun k => pgN ρ p k = f) (bk ρ p)) n ≤ 256 * n := by
    intro n
    induction n with
    | zero => intro _; exact Nat.le_refl _
    | succ n ih =>
      intro hn
      have h1 := ih (by omega)
      have h2 := cn_le (P := fun k => pgN ρ n k = f) (n := bk ρ n)
      have h3 := (hu n (by omega)).2.1
      show sN _ n + cn (fun k => pgN ρ n k = f) (bk ρ n) ≤ _
      omega
  exact key 16 (Nat.le_refl _)
theorem kindOf_t {σ ρ : KS} (h : Rel σ ρ) {f : Nat} (hf : f < 128) : m_X2_kindOf (nI f) σ = some (ρ.1 2 f, σ) := by
  have hu := usr_le h.u f
  obtain ⟨⟨-, -, hP1, hP2, -⟩, hD, hK, -, -, -, hG, -, -⟩ := h
  obtain ⟨a, a1, a2, a3, -⟩ := hP1 f hf
  obtain ⟨b, b1, b2, b3, -⟩ := hP2 f hf
  obtain ⟨g1, g2⟩ := hG.2.1 f hf
  unfold m_X2_kindOf
  rw [bnd_eq (countIn_r hf a1 a2)]
  by_cases ha : a = 0
  · rw [if_pos ((nI_le0 (by omega)).mpr ((pop_0 a a1).mpr ha)), bnd_eq (countIn_t hf b1 b2)]
    by_cases hb : b = 0
    · rw [if_pos ((nI_le0 (by omega)).mpr ((pop_0 b b1).mpr hb)), bnd_eq (isFrame_t hf), if_neg (by decide), chk_nI hf (by decide), rd_nI (by omega), g1]
      by_cases hs : usr ρ f = 0
      · rw [if_pos ((nI_le0 (by omega)).mpr hs), bnd_eq (isKernels_t hK hf)]
        by_cases h4 : ρ.1 2 f = nI 4
        · rw [if_pos h4, if_neg (by decide), h4]; rfl
        · rw [if_neg h4, if_pos rfl]
          obtain ⟨v, v1, v2⟩ := hD f hf
          have n1 : ¬ ρ.1 2 f = nI 1 := fun q => (a3.mp q) ha
          have n2 : ¬ ρ.1 2 f = nI 2 := fun q => (b3.mp q) hb
          have n3 : ¬ ρ.1 2 f = nI 3 := fun q => by have := g2.mp q; omega
          rw [v2] at n1 n2 n3 h4 ⊢
          rcases (show v = 0 ∨ v = 1 ∨ v = 2 ∨ v = 3 ∨ v = 4 by omega) with rfl | rfl | rfl | rfl | rfl
          · rfl
          · exact absurd rfl n1
          · exact absurd rfl n2
          · exact absurd rfl n3
          · exact absurd rfl h4
      · rw [if_neg (fun q => hs ((nI_le0 (by omega)).mp q)), g2.mpr (by omega)]; rfl
    · rw [if_neg (fun q => hb ((pop_0 b b1).mp ((nI_le0 (by omega)).mp q))), b3.mpr hb]; rfl
  · rw [if_neg (fun q => ha ((pop_0 a a1).mp ((nI_le0 (by omega)).mp q))), a3.mpr ha]; rfl
theorem isFrame_f {x : Int32} {σ : KS} (h : x < 0 ∨ nI 128 ≤ x) : m_X2_isFrame x σ = some (0, σ) := by
  unfold m_X2_isFrame
  by_cases h0 : x < 0
  · rw [if_pos h0]
  · rw [if_neg h0, if_pos (show (128 : Int32) ≤ x from h.resolve_left h0)]
theorem sim_about : ∀ (a b : Int32) (σ ρ : KS), Rel σ ρ → ∃ (r : Int32) (σ' ρ' : KS), m_X2_about a b σ = some (r, σ') ∧ m_X3_about a b ρ = some (r, ρ') ∧ Rel σ' ρ' := by
  intro a b σ ρ h
  unfold m_X2_about m_X3_about
  rcases pk_ix a (n := 128) (by decide) with q | q | ⟨f, hf, rfl⟩
  · rw [bnd_eq (isFrame_f (Or.inl q)), if_pos rfl, if_pos q]; exact ⟨-2, σ, ρ, rfl, rfl, h⟩
  · rw [bnd_eq (isFrame_f (Or.inr q)), if_pos rfl]
    refine ⟨-2, σ, ρ, rfl, ?_, h⟩
    by_cases h0 : a < 0
    · rw [if_pos h0]
    · rw [if_neg h0, if_pos (show (128 : Int32) ≤ a from q)]
  · rw [bnd_eq (isFrame_t hf), if_neg (by decide), if_neg (show ¬ nI f < 0 from nI_nlt (b := 0) (by omega) (by omega)), if_neg (show ¬ (128 : Int32) ≤ nI f from nI_ge (b := 128) (by omega) (by omega))]
    by_cases b0 : b = 0
    · subst b0
      rw [if_pos rfl, bnd_eq (kindOf_t h hf), if_neg (by decide), if_pos (by decide), if_pos rfl, chk_nI hf (by decide), rd_nI (by omega)]
      exact ⟨_, σ, ρ, rfl, rfl, h⟩
    · rw [if_neg b0]
      by_cases b1 : b = 1
      · subst b1
        have hu := usr_le h.u f
        obtain ⟨⟨-, -, hP1, hP2, -⟩, -, -, -, -, -, hG, -, -⟩ := id h
        obtain ⟨a, a1, a2, a3, a4⟩ := hP1 f hf
        obtain ⟨c, c1, c2, c3, c4⟩ := hP2 f hf
        obtain ⟨g1, g2⟩ := hG.2.1 f hf
        rw [if_pos rfl, bnd_eq (countIn_r hf a1 a2), bnd_eq (countIn_t hf c1 c2), chk_nI hf (by decide), rd_nI (by omega), g1, nI_add, nI_add, if_neg (by decide), if_pos (by decide), if_neg (by decide), chk_nI hf (by decide), chk_nI hf (by decide), chk_nI hf (by decide), rd_nI (by omega)]
        refine ⟨_, σ, ρ, rfl, ?_, h⟩
        have hx : ∀ v, ρ.1 2 f = nI v → v < 5 → (v ≠ 1 → a = 0) ∧ (v ≠ 2 → c = 0) ∧ (v ≠ 3 → usr ρ f = 0) := by
          intro v hv h5
          refine ⟨fun w => ?_, fun w => ?_, fun w => ?_⟩
          · refine Classical.byContradiction fun q => w ?_
            have := a3.mpr q; rw [hv] at this; exact (nI_eq (by omega) (by omega)).mp this
          · refine Classical.byContradiction fun q => w ?_
            have := c3.mpr q; rw [hv] at this; exact (nI_eq (by omega) (by omega)).mp this
          · refine Classical.byContradiction fun q => w ?_
            have := g2.mpr (by omega); rw [hv] at this; exact (nI_eq (by omega) (by omega)).mp this
        have h01 : ∀ e, e < 16 → (∀ i, i < 4 → ρ.1 3 (4 * f + i) = nI (e / 2 ^ i % 2)) → ∀ i, i < 4 → ρ.1 3 (4 * f + i) = 0 ∨ ρ.1 3 (4 * f + i) = 1 := by
          intro e he hh i hi
          rw [hh i hi]
          rcases (show e / 2 ^ i % 2 = 0 ∨ e / 2 ^ i % 2 = 1 by omega) with q | q
          · left; rw [q]; rfl
          · right; rw [q]; rfl
        by_cases k1 : ρ.1 2 f = 1
        · obtain ⟨-, x2, x3⟩ := hx 1 k1 (by decide)
          have ha := a4 (a3.mp k1)
          rw [if_pos k1, bnd_eq (smallIn_t hf (h01 a a1 ha)), pop_u ha, x2 (by decide), x3 (by decide)]
          simp
        · rw [if_neg k1]
          by_cases k2 : ρ.1 2 f = 2
          · obtain ⟨x1, -, x3⟩ := hx 2 k2 (by decide)
            have hc := c4 (c3.mp k2)
            rw [if_pos k2, bnd_eq (smallIn_t hf (h01 c c1 hc)), pop_u hc, x1 (by decide), x3 (by decide)]
            simp
          · rw [if_neg k2]
            by_cases k3 : ρ.1 2 f = 3
            · obtain ⟨x1, x2, -⟩ := hx 3 k3 (by decide)
              rw [if_pos k3, bnd_eq (users_t h.u hf), x1 (by decide), x2 (by decide)]
              simp
            · rw [if_neg k3]
              obtain ⟨v, v1, v2⟩ := h.2.1 f hf
              obtain ⟨x1, x2, x3⟩ := hx v v2 v1
              rw [x1 (fun w => k1 (by rw [v2, w]; rfl)), x2 (fun w => k2 (by rw [v2, w]; rfl)), x3 (fun w => k3 (by rw [v2, w]; rfl))]
              simp; rfl
      · rw [if_neg b1]
        refine ⟨-2, σ, ρ, rfl, ?_, h⟩
        by_cases h0 : b < 0
        · rw [if_pos h0]
        · rw [if_neg h0, if_neg]
          intro h1
          obtain ⟨j, hj, e⟩ := nI_of2 (M := 1) (n := 1) rfl h0 h1
          rcases (show j = 0 ∨ j = 1 by omega) with w | w
          · subst w; exact b0 e
          · subst w; exact b1 e
