/-! PURE: calls that only look, the rest -/
theorem childrenOf_l {σ : KS} {v : Int32} : ∀ (n i c : Nat), i ≤ 16 → 16 < n + i → c = cn (fun p => σ.1 12 p = v) i → f_X2_childrenOf_4 n v (nI c) (nI i) σ = some (nI (cn (fun p => σ.1 12 p = v) 16), σ) := by
  intro n
  induction n with
  | zero => intro i c h1 h2; omega
  | succ n ih =>
    intro i c h1 h2 hc
    rw [f_X2_childrenOf_4]
    by_cases e : i = 16
    · subst e; rw [if_pos (show (16 : Int32) ≤ nI 16 from nI_le (a := 16) (by omega) (by omega)), hc]
    · rw [if_neg (show ¬ (16 : Int32) ≤ nI i from nI_ge (b := 16) (by omega) (by omega)), chk_nI (by omega) (by decide), rd_nI (by omega), show nI i + 1 = nI (i + 1) from nI_1 i, show nI c + 1 = nI (c + 1) from nI_1 c]
      by_cases hv : σ.1 12 i = v
      · rw [if_pos hv]; exact ih (i + 1) (c + 1) (by omega) (by omega) (by rw [cn_s (P := fun p => σ.1 12 p = v) hv, hc])
      · rw [if_neg hv]; exact ih (i + 1) c (by omega) (by omega) (by rw [cn_s0 (P := fun p => σ.1 12 p = v) hv, hc])
theorem childrenOf_t {σ : KS} {v : Int32} : m_X2_childrenOf v σ = some (nI (cn (fun p => σ.1 12 p = v) 16), σ) := childrenOf_l FU 0 0 (by omega) (by decide) rfl
theorem kids {σ ρ : KS} (h : rP σ ρ) {v : Nat} (hv : v < 2 ^ 31) {i : Nat} (hi : i < 16) : σ.1 12 i = nI v ↔ (¬ ρ.1 6 i = 0 ∧ ρ.1 8 i = nI v) := by
  rw [(h i hi).2.2.2.2.2.2.1]
  by_cases e : ρ.1 6 i = 0
  · rw [if_pos e]; exact ⟨fun q => absurd q (m1_nI hv), fun q => absurd e q.1⟩
  · rw [if_neg e]; exact ⟨fun q => ⟨e, q⟩, fun q => q.2⟩
/-- where a process stands in the row -/
theorem row_l {σ ρ : KS} {x : Int32} {m : Nat} (hm : m ≤ 16) (h1 : σ.2 0 = nI m) (h2 : ρ.2 0 = nI m) (h3 : ∀ i, i < m → σ.1 16 i = ρ.1 13 i) : ∀ (n i : Nat), i ≤ m → m < n + i →
    ∃ r, f_X2_placeInRow_2 n x (nI i) σ = some (r, σ) ∧ f_X3_placeInRow_2 n x (nI i) ρ = some (r, ρ) ∧ ((r = -1 ∧ ∀ g, i ≤ g → g < m → ¬ ρ.1 13 g = x) ∨ ∃ j, i ≤ j ∧ j < m ∧ r = nI j ∧ ρ.1 13 j = x) := by
  intro n
  induction n with
  | zero => intro i a b; omega
  | succ n ih =>
    intro i a b
    rw [f_X2_placeInRow_2, f_X3_placeInRow_2]
    unfold gv
    rw [h1, h2]
    by_cases e : i = m
    · subst e
      rw [if_pos (nI_le (Nat.le_refl _) (by omega)), if_pos (nI_le (Nat.le_refl _) (by omega))]
      exact ⟨-1, rfl, rfl, Or.inl ⟨rfl, fun g a b => by omega⟩⟩
    · rw [if_neg (nI_ge (by omega) (by omega)), if_neg (nI_ge (by omega) (by omega)), chk_nI (by omega) (by decide), chk_nI (by omega) (by decide), rd_nI (by omega), rd_nI (by omega), h3 i (by omega), show nI i + 1 = nI (i + 1) from nI_1 i]
      by_cases hx : ρ.1 13 i = x
      · rw [if_pos hx, if_pos hx]
        exact ⟨nI i, rfl, rfl, Or.inr ⟨i, Nat.le_refl _, by omega, rfl, hx⟩⟩
      · rw [if_neg hx, if_neg hx]
        obtain ⟨r, r1, r2, hr⟩ := ih (i + 1) (by omega) (by omega)
        refine ⟨r, r1, r2, ?_⟩
        rcases hr with ⟨q1, q2⟩ | ⟨j, q1, q2, q3, q4⟩
        · left
          refine ⟨q1, fun g ga gb => ?_⟩
          rcases Nat.lt_or_ge i g with w | w
          · exact q2 g w gb
          · rw [show g = i by omega]; exact hx
        · exact Or.inr ⟨j, by omega, q2, q3, q4⟩
theorem process_l {ρ : KS} {x y : Int32} : ∀ (n i c : Nat), i ≤ 16 → 16 < n + i → c = cn (fun p => ¬ ρ.1 6 p = 0 ∧ ρ.1 8 p = x) i →
    f_X3_process_27 n x y (nI c) (nI i) ρ = (if y = 0 then chk x 16 (some ((rd ρ 6 x), ρ)) else if y = 1 then chk x 16 (if (rd ρ 6 x) = 1 then chk x 16 (some ((rd ρ 7 x), ρ)) else some (0, ρ)) else if y = 2 then chk x 16 (if (rd ρ 6 x) = 0 then some ((-1), ρ) else chk x 16 (some ((rd ρ 8 x), ρ))) else if y = 3 then some (nI (cn (fun p => ¬ ρ.1 6 p = 0 ∧ ρ.1 8 p = x) 16), ρ) else bnd (m_X3_placeInRow x ρ) (fun r_152 σ_152 => some (r_152, σ_152))) := by
  intro n
  induction n with
  | zero => intro i c h1 h2; omega
  | succ n ih =>
    intro i c h1 h2 hc
    rw [f_X3_process_27]
    by_cases e : i = 16
    · subst e; rw [if_pos (show (16 : Int32) ≤ nI 16 from nI_le (a := 16) (by omega) (by omega)), hc]
    · rw [if_neg (show ¬ (16 : Int32) ≤ nI i from nI_ge (b := 16) (by omega) (by omega)), chk_nI (by omega) (by decide), chk_nI (by omega) (by decide), rd_nI (i := i) (by omega), rd_nI (i := i) (by omega), show nI i + 1 = nI (i + 1) from nI_1 i, show nI c + 1 = nI (c + 1) from nI_1 c, show nI c + 0 = nI (c + 0) from nI_add c 0]
      by_cases h0 : ρ.1 6 i = 0
      · rw [if_pos h0]
        exact ih (i + 1) (c + 0) (by omega) (by omega) (by rw [cn_s0 (P := fun p => ¬ ρ.1 6 p = 0 ∧ ρ.1 8 p = x) (fun q => q.1 h0), hc]; rfl)
      · rw [if_neg h0]
        by_cases hv : ρ.1 8 i = x
        · rw [if_pos hv]; exact ih (i + 1) (c + 1) (by omega) (by omega) (by rw [cn_s (P := fun p => ¬ ρ.1 6 p = 0 ∧ ρ.1 8 p = x) ⟨h0, hv⟩, hc])
        · rw [if_neg hv]; exact ih (i + 1) (c + 0) (by omega) (by omega) (by rw [cn_s0 (P := fun p => ¬ ρ.1 6 p = 0 ∧ ρ.1 8 p = x) (fun q => hv q.2), hc]; rfl)
theorem sim_process : ∀ (a b : Int32) (σ ρ : KS), Rel σ ρ → ∃ (r : Int32) (σ' ρ' : KS), m_X2_process a b σ = some (r, σ') ∧ m_X3_process a b ρ = some (r, ρ') ∧ Rel σ' ρ' := by
  intro a b σ ρ h
  have hP := h.2.2.2.1
  unfold m_X2_process m_X3_process
  rcases pk_ix a (n := 16) (by decide) with q | q | ⟨p, hp, rfl⟩
  · rw [bnd_eq (isNumber_f (Or.inl q)), if_pos rfl, if_pos q]; exact ⟨-2, σ, ρ, rfl, rfl, h⟩
  · rw [bnd_eq (isNumber_f (Or.inr q)), if_pos rfl]
    refine ⟨-2, σ, ρ, rfl, ?_, h⟩
    by_cases h0 : a < 0
    · rw [if_pos h0]
    · rw [if_neg h0, if_pos (show (16 : Int32) ≤ a from q)]
  · rw [bnd_eq (isNumber_t hp), if_neg (by decide), if_neg (show ¬ nI p < 0 from nI_nlt (b := 0) (by omega) (by omega)), if_neg (show ¬ (16 : Int32) ≤ nI p from nI_ge (b := 16) (by omega) (by omega))]
    by_cases hb : b < 0 ∨ ¬ b ≤ 4
    · obtain ⟨b0, b1, b2, b3, b4⟩ := big5 hb
      rw [if_neg b0, if_neg b1, if_neg b2, if_neg b3, if_neg b4]
      refine ⟨-2, σ, ρ, rfl, ?_, h⟩
      rcases hb with q | q
      · rw [if_pos q]
      · rw [if_neg q]; split <;> rfl
    · have h0 : ¬ b < 0 := fun q => hb (Or.inl q)
      have h4 : b ≤ 4 := Classical.byContradiction fun q => hb (Or.inr q)
      obtain ⟨p1, p2, p3, p4, p5, p6, p7, p8⟩ := hP p hp
      rw [if_neg h0, if_pos h4, show f_X3_process_27 FU (nI p) b 0 0 ρ = _ from process_l FU 0 0 (by omega) (by decide) rfl, chk_nI hp (by decide), chk_nI hp (by decide), chk_nI hp (by decide), chk_nI hp (by decide), chk_nI hp (by decide), chk_nI hp (by decide), chk_nI hp (by decide), chk_nI hp (by decide), rd_nI (by omega), rd_nI (by omega), rd_nI (by omega), rd_nI (by omega), rd_nI (by omega), rd_nI (by omega)]
      rcases sm5 h0 h4 with rfl | rfl | rfl | rfl | rfl
      · rw [if_pos rfl, if_pos rfl, p1]; exact ⟨_, σ, ρ, rfl, rfl, h⟩
      · rw [if_neg (by decide), if_pos rfl, if_neg (by decide), if_pos rfl, p3]
        by_cases hl : ρ.1 6 p = 1
        · rw [if_pos hl]; exact ⟨_, σ, ρ, rfl, rfl, h⟩
        · rw [if_neg hl, p4, p6 hl]; exact ⟨_, σ, ρ, rfl, rfl, h⟩
      · rw [if_neg (by decide), if_neg (by decide), if_pos rfl, if_neg (by decide), if_neg (by decide), if_pos rfl, p7]
        split <;> exact ⟨_, σ, ρ, rfl, rfl, h⟩
      · rw [if_neg (by decide), if_neg (by decide), if_neg (by decide), if_pos rfl, if_neg (by decide), if_neg (by decide), if_neg (by decide), if_pos rfl, bnd_eq childrenOf_t, cn_congr (P := fun q => σ.1 12 q = nI p) (Q := fun q => ¬ ρ.1 6 q = 0 ∧ ρ.1 8 q = nI p) (fun i hi => kids hP (by omega) hi)]
        exact ⟨_, σ, ρ, rfl, rfl, h⟩
      · rw [if_neg (by decide), if_neg (by decide), if_neg (by decide), if_neg (by decide), if_pos rfl, if_neg (by decide), if_neg (by decide), if_neg (by decide), if_neg (by decide)]
        obtain ⟨m, n1, n2, n3, n4, n5, n6⟩ := h.2.2.2.2.2.2.2.1
        obtain ⟨r, r1, r2, -⟩ := row_l (x := nI p) n1 n2 n3 (fun i hi => (n4 i hi).1) FU 0 (by omega) (show m < 1100 + 0 by omega)
        rw [bnd_eq (show m_X2_placeInRow (nI p) σ = _ from r1), bnd_eq (show m_X3_placeInRow (nI p) ρ = _ from r2)]
        exact ⟨r, σ, ρ, rfl, rfl, h⟩
/-! free frames -/
theorem sm_cn {O : Nat → Int32} : ∀ (n : Nat), (∀ g, g < n → O g = -1 ∨ ∃ k, k < 8 ∧ O g = nI k) → sN (fun k => cn (fun g => O g = nI k) n * 2 ^ k) 8 = sm O n := by
  intro n
  induction n with
  | zero => intro _; rfl
  | succ n ih =>
    intro h
    have i1 := ih (fun g hg => h g (by omega))
    show _ = sm O n + sz (O n)
    rw [← i1]
    rcases h n (by omega) with q | ⟨j, hj, q⟩
    · have hk : ∀ k, k < 8 → cn (fun g => O g = nI k) (n + 1) = cn (fun g => O g = nI k) n := fun k hk => cn_s0 (P := fun g => O g = nI k) (by rw [q]; exact m1_nI (by omega))
      rw [q, sz_m1, Nat.add_zero]
      exact sN_congr fun k hk' => by rw [hk k hk']
    · have hk : ∀ k, k < 8 → cn (fun g => O g = nI k) (n + 1) = cn (fun g => O g = nI k) n + if k = j then 1 else 0 := fun k hk => by
        by_cases e : k = j
        · subst e; rw [if_pos rfl]; exact cn_s (P := fun g => O g = nI k) q
        · rw [if_neg e]; exact cn_s0 (P := fun g => O g = nI k) (by rw [q]; exact fun w => e ((nI_eq (by omega) (by omega)).mp w).symm)
      rw [q, sz_nI (by omega)]
      have e8 : ∀ g : Nat → Nat, sN g 8 = 0 + g 0 + g 1 + g 2 + g 3 + g 4 + g 5 + g 6 + g 7 := fun g => rfl
      rw [e8, e8, hk 0 (by decide), hk 1 (by decide), hk 2 (by decide), hk 3 (by decide), hk 4 (by decide), hk 5 (by decide), hk 6 (by decide), hk 7 (by decide)]
      rcases (show j = 0 ∨ j = 1 ∨ j = 2 ∨ j = 3 ∨ j = 4 ∨ j = 5 ∨ j = 6 ∨ j = 7 by omega) with rfl | rfl | rfl | rfl | rfl | rfl | rfl | rfl <;> simp <;> omega
theorem shl_t : ∀ k, k < 8 → ((nI k &&& 31).toBitVec.smod 32).toNat = k := by decide +kernel
theorem freeFrames_l {σ : KS} {c : Nat → Nat} (hc : ∀ k, k < 8 → σ.1 5 k = nI (c k) ∧ c k ≤ 128) : ∀ (n k : Nat), k ≤ 8 → 8 < n + k → f_X2_freeFrames_4 n (nI (sN (fun k => c k * 2 ^ k) k)) (nI k) σ = some (nI (sN (fun k => c k * 2 ^ k) 8), σ) := by
  intro n
  induction n with
  | zero => intro k a b; omega
  | succ n ih =>
    intro k a b
    rw [f_X2_freeFrames_4]
    by_cases e : k = 8
    · subst e; rw [if_pos (show (7 : Int32) < nI 8 from nI_lt (a := 7) (by omega) (by omega))]
    · have hk : k < 8 := by omega
      have hp := pw8 hk
      obtain ⟨c1, c2⟩ := hc k hk
      have : c k * 2 ^ k ≤ 128 * 128 := Nat.mul_le_mul c2 hp.1
      rw [if_neg (show ¬ (7 : Int32) < nI k from nI_nlt (a := 7) (by omega) (by omega)), bnd_eq (countOf_t hk), c1, pk_shlN (nI k &&& 31) k (shl_t k hk) (by omega), nI_add, show nI k + 1 = nI (k + 1) from nI_1 k]
      exact ih (k + 1) (by omega) (by omega)
theorem freeFramesM_l {ρ : KS} : ∀ (n i c : Nat), i ≤ 128 → 128 < n + i → c = cn (fun f => ρ.1 2 f = 0) i → f_X3_freeFrames_4 n (nI c) (nI i) ρ = some (nI (cn (fun f => ρ.1 2 f = 0) 128), ρ) := by
  intro n
  induction n with
  | zero => intro i c h1 h2; omega
  | succ n ih =>
    intro i c h1 h2 hc
    rw [f_X3_freeFrames_4]
    by_cases e : i = 128
    · subst e; rw [if_pos (show (128 : Int32) ≤ nI 128 from nI_le (a := 128) (by omega) (by omega)), hc]
    · rw [if_neg (show ¬ (128 : Int32) ≤ nI i from nI_ge (b := 128) (by omega) (by omega)), chk_nI (by omega) (by decide), rd_nI (by omega), show nI i + 1 = nI (i + 1) from nI_1 i, show nI c + 1 = nI (c + 1) from nI_1 c, show nI c + 0 = nI (c + 0) from nI_add c 0]
      by_cases hv : ρ.1 2 i = 0
      · rw [if_pos hv]; exact ih (i + 1) (c + 1) (by omega) (by omega) (by rw [cn_s (P := fun f => ρ.1 2 f = 0) hv, hc])
      · rw [if_neg hv]; exact ih (i + 1) (c + 0) (by omega) (by omega) (by rw [cn_s0 (P := fun f => ρ.1 2 f = 0) hv, hc]; rfl)
theorem sim_freeFrames : ∀ (σ ρ : KS), Rel σ ρ → ∃ (r : Int32) (σ' ρ' : KS), m_X2_freeFrames σ = some (r, σ') ∧ m_X3_freeFrames ρ = some (r, ρ') ∧ Rel σ' ρ' := by
  intro σ ρ h
  have hB := h.1.1
  have r1 := freeFrames_l (σ := σ) (c := fun k => cn (fun g => σ.1 4 g = nI k) 128) (fun k hk => ⟨hB.2.1 k hk, cn_le⟩) FU 0 (by omega) (by decide)
  have r2 := freeFramesM_l (ρ := ρ) FU 0 0 (by omega) (by decide) rfl
  rw [sm_cn 128 hB.1.2, hB.2.2] at r1
  rw [cn_congr (P := fun f => ρ.1 2 f = 0) (Q := zs ρ) (fun i hi => ⟨fun q => ⟨hi, q⟩, fun q => q.2⟩)] at r2
  exact ⟨_, σ, ρ, r1, r2, h⟩
theorem freeM_l {ρ : KS} {k : Nat} {y : Int32} (hk : k < 8) (h01 : ∀ f, f < 128 → ρ.1 1 (128 * k + f) = 0 ∨ ρ.1 1 (128 * k + f) = 1) : ∀ (n i c : Nat) (lv : Int32), i ≤ 128 → 128 < n + i → c = cn (fun f => ρ.1 1 (128 * k + f) = 1) i → ((lv = -1 ∧ ∀ g, g < i → ¬ ρ.1 1 (128 * k + g) = 1) ∨ ∃ f, f < i ∧ lv = nI f ∧ ρ.1 1 (128 * k + f) = 1 ∧ ∀ g, g < f → ¬ ρ.1 1 (128 * k + g) = 1) →
    ∃ lv', f_X3_free_30 n (nI k) y (nI c) lv (nI i) ρ = (if y = 0 then some (nI (cn (fun f => ρ.1 1 (128 * k + f) = 1) 128), ρ) else some (lv', ρ)) ∧ ((lv' = -1 ∧ ∀ g, g < 128 → ¬ ρ.1 1 (128 * k + g) = 1) ∨ ∃ f, f < 128 ∧ lv' = nI f ∧ ρ.1 1 (128 * k + f) = 1 ∧ ∀ g, g < f → ¬ ρ.1 1 (128 * k + g) = 1) := by
  intro n
  induction n with
  | zero => intro i c lv h1 h2; omega
  | succ n ih =>
    intro i c lv h1 h2 hc hl
    rw [f_X3_free_30]
    by_cases e : i = 128
    · subst e; rw [if_pos (show (128 : Int32) ≤ nI 128 from nI_le (a := 128) (by omega) (by omega)), hc]; exact ⟨lv, rfl, hl⟩
    · have hi : i < 128 := by omega
      rw [if_neg (show ¬ (128 : Int32) ≤ nI i from nI_ge (b := 128) hi (by omega)), q128m, chk_nI (by omega) (by decide), rd_nI (by omega), show nI i + 1 = nI (i + 1) from nI_1 i, show nI c + 1 = nI (c + 1) from nI_1 c]
      rcases h01 i hi with q | q
      · have q1 : ¬ ρ.1 1 (128 * k + i) = 1 := by rw [q]; decide
        rw [if_pos q]
        refine ih (i + 1) c lv (by omega) (by omega) (by rw [cn_s0 (P := fun f => ρ.1 1 (128 * k + f) = 1) q1, hc]) ?_
        rcases hl with ⟨a, b⟩ | ⟨f, a, b, d, d2⟩
        · left
          refine ⟨a, fun g hg => ?_⟩
          rcases Nat.lt_or_ge g i with w | w
          · exact b g w
          · rw [show g = i by omega]; exact q1
        · exact Or.inr ⟨f, by omega, b, d, d2⟩
      · rw [if_neg (by rw [q]; decide)]
        have hc' : c + 1 = cn (fun f => ρ.1 1 (128 * k + f) = 1) (i + 1) := by rw [cn_s (P := fun f => ρ.1 1 (128 * k + f) = 1) q, hc]
        rcases hl with ⟨a, b⟩ | ⟨f, a, b, d, d2⟩
        · subst a
          rw [if_neg (show ¬ (0 : Int32) ≤ -1 by decide)]
          exact ih (i + 1) (c + 1) (nI i) (by omega) (by omega) hc' (Or.inr ⟨i, by omega, rfl, q, b⟩)
        · subst b
          rw [if_pos (show (0 : Int32) ≤ nI f from nI_le (a := 0) (by omega) (by omega))]
          exact ih (i + 1) (c + 1) (nI f) (by omega) (by omega) hc' (Or.inr ⟨f, by omega, rfl, d, d2⟩)
theorem isOrder_f {x : Int32} {σ : KS} (h : x < 0 ∨ nI 8 ≤ x) : m_X2_isOrder x σ = some (0, σ) := by
  unfold m_X2_isOrder
  by_cases h0 : x < 0
  · rw [if_pos h0]
  · have h8 := h.resolve_left h0
    rw [if_neg h0, if_pos]
    rw [Int32.lt_iff_toInt_lt]
    rw [Int32.le_iff_toInt_le, nI_toInt (by decide)] at h8
    have : (7 : Int32).toInt = 7 := rfl
    omega
theorem sim_free : ∀ (a b : Int32) (σ ρ : KS), Rel σ ρ → ∃ (r : Int32) (σ' ρ' : KS), m_X2_free a b σ = some (r, σ') ∧ m_X3_free a b ρ = some (r, ρ') ∧ Rel σ' ρ' := by
  intro a b σ ρ h
  obtain ⟨hB, hC, -, -, -⟩ := h.1
  unfold m_X2_free m_X3_free
  rcases pk_ix a (n := 8) (by decide) with q | q | ⟨k, hk, rfl⟩
  · rw [bnd_eq (isOrder_f (Or.inl q)), if_pos rfl, if_pos q]; exact ⟨-2, σ, ρ, rfl, rfl, h⟩
  · rw [bnd_eq (isOrder_f (Or.inr q)), if_pos rfl]
    refine ⟨-2, σ, ρ, rfl, ?_, h⟩
    by_cases h0 : a < 0
    · rw [if_pos h0]
    · rw [if_neg h0, if_pos (show (8 : Int32) ≤ a from q)]
  · rw [bnd_eq (isOrder_t hk), if_neg (by decide), if_neg (show ¬ nI k < 0 from nI_nlt (b := 0) (by omega) (by omega)), if_neg (show ¬ (8 : Int32) ≤ nI k from nI_ge (b := 8) (by omega) (by omega))]
    obtain ⟨lv, r2, hl⟩ := freeM_l (ρ := ρ) (y := b) hk (fun f hf => (hC f k hf hk).1) FU 0 0 (-1) (by omega) (by decide) rfl (Or.inl ⟨rfl, fun g hg => by omega⟩)
    have r2 : f_X3_free_30 FU (nI k) b 0 (-1) 0 ρ = _ := r2
    by_cases b0 : b = 0
    · subst b0
      rw [if_pos rfl, bnd_eq (countOf_t hk), if_neg (by decide), if_pos (by decide), r2, if_pos rfl, hB.2.1 k hk]
      refine ⟨_, σ, ρ, rfl, ?_, h⟩
      rw [cn_congr (P := fun f => ρ.1 1 (128 * k + f) = 1) (Q := fun g => σ.1 4 g = nI k) (fun i hi => by rw [(hC i k hi hk).2, hB.1.1 i k hi hk])]
    · rw [if_neg b0]
      by_cases b1 : b = 1
      · subst b1
        rw [if_pos rfl, if_neg (by decide), if_pos (by decide), r2, if_neg (by decide)]
        rcases leastOf_t hB hk with ⟨f, f1, f2, f3, f4, r1⟩ | ⟨f4, r1⟩
        · rw [bnd_eq r1]
          refine ⟨_, σ, ρ, rfl, ?_, h⟩
          rcases hl with ⟨-, l2⟩ | ⟨f', l1, l2, l3, l4⟩
          · exact absurd ((hC f k f1 hk).2.mpr ⟨f2, f3⟩) (l2 f f1)
          · have m3 := (hC f' k l1 hk).2.mp l3
            have : f' = f := by
              rcases Nat.lt_trichotomy f f' with w | w | w
              · exact absurd ((hC f k f1 hk).2.mpr ⟨f2, f3⟩) (l4 f w)
              · exact w.symm
              · exact absurd m3.2 (f4 f' w m3.1)
            rw [l2, this]
        · rw [bnd_eq r1]
          refine ⟨_, σ, ρ, rfl, ?_, h⟩
          rcases hl with ⟨l1, -⟩ | ⟨f', l1, l2, l3, l4⟩
          · rw [l1]
          · have m3 := (hC f' k l1 hk).2.mp l3
            exact absurd m3.2 (f4 f' l1 m3.1)
      · rw [if_neg b1]
        refine ⟨-2, σ, ρ, rfl, ?_, h⟩
        by_cases h0 : b < 0
        · rw [if_pos h0]
        · rw [if_neg h0, if_neg]
          intro h1
          obtain ⟨j, hj, e⟩ := nI_of2 (M := 1) (n := 1) rfl h0 h1
          rcases (show j = 0 ∨ j = 1 by omega) with w | w
          · subst w; exact b0 e
          · subst w; exact b1 e
