/-! PURE: exit -/
/-- the row without x -/
def rX (x : Nat) (σ ρ : KS) : Prop := ∃ n, n ≤ 16 ∧ σ.2 0 = nI n ∧ ρ.2 0 = nI n ∧ (∀ i, i < n → σ.1 16 i = ρ.1 13 i ∧ ∃ p, p < 16 ∧ p ≠ x ∧ ρ.1 13 i = nI p ∧ ρ.1 6 p = 1) ∧
  (∀ i j, i < n → j < n → ρ.1 13 i = ρ.1 13 j → i = j) ∧ (∀ p, p < 16 → p ≠ x → ρ.1 6 p = 1 → ∃ i, i < n ∧ ρ.1 13 i = nI p)
theorem rX.cong {x : Nat} {σ ρ σ' ρ' : KS} (h : rX x σ ρ) (a : σ'.1 16 = σ.1 16) (b : ∀ k ∈ [6, 13], ρ'.1 k = ρ.1 k) (c : σ'.2 0 = σ.2 0) (d : ρ'.2 0 = ρ.2 0) : rX x σ' ρ' := by
  have b1 := b 6 (by decide); have b2 := b 13 (by decide)
  unfold rX at *
  rw [a, b1, b2, c, d]; exact h
theorem rX.gone {x : Nat} {σ ρ σ' ρ' : KS} {c : Nat} (h : rX x σ ρ) (hs : ¬ ρ.1 6 c = 1) (v : Int32) (hv : ¬ v = 1) (a : σ'.1 16 = σ.1 16) (b : ρ'.1 13 = ρ.1 13) (e6 : ρ'.1 6 = upd (ρ.1 6) c v) (d : σ'.2 0 = σ.2 0) (e : ρ'.2 0 = ρ.2 0) : rX x σ' ρ' := by
  obtain ⟨n, n1, n2, n3, n4, n5, n6⟩ := h
  refine ⟨n, n1, by rw [d]; exact n2, by rw [e]; exact n3, fun i hi => ?_, fun i j hi hj => by rw [b]; exact n5 i j hi hj, fun p hp hx hl => ?_⟩
  · rw [a, b, e6]
    obtain ⟨x1, p, p1, p0, p2, p3⟩ := n4 i hi
    refine ⟨x1, p, p1, p0, p2, ?_⟩
    by_cases eq : p = c
    · subst eq; exact absurd p3 hs
    · rw [upd_ne eq]; exact p3
  · rw [e6] at hl
    rw [b]
    by_cases eq : p = c
    · subst eq; rw [upd_eq] at hl; exact absurd hl hv
    · rw [upd_ne eq] at hl; exact n6 p hp hx hl
theorem rX.back {x : Nat} {σ ρ σ' ρ' : KS} (h : rX x σ ρ) (v : Int32) (hv : ¬ v = 1) (a : σ'.1 16 = σ.1 16) (b : ρ'.1 13 = ρ.1 13) (e6 : ρ'.1 6 = upd (ρ.1 6) x v) (d : σ'.2 0 = σ.2 0) (e : ρ'.2 0 = ρ.2 0) : rR σ' ρ' := by
  obtain ⟨n, n1, n2, n3, n4, n5, n6⟩ := h
  refine ⟨n, n1, by rw [d]; exact n2, by rw [e]; exact n3, fun i hi => ?_, fun i j hi hj => by rw [b]; exact n5 i j hi hj, fun p hp hl => ?_⟩
  · rw [a, b, e6]
    obtain ⟨x1, p, p1, p0, p2, p3⟩ := n4 i hi
    exact ⟨x1, p, p1, p2, by rw [upd_ne p0]; exact p3⟩
  · rw [e6] at hl
    rw [b]
    by_cases eq : p = x
    · subst eq; rw [upd_eq] at hl; exact absurd hl hv
    · rw [upd_ne eq] at hl; exact n6 p hp eq hl
/-- Rl where only parents change -/
theorem Rl.par {σ ρ σ' ρ' : KS} (h : Rl σ ρ) (xo : ∀ k, k ≠ 12 → σ'.1 k = σ.1 k) (mo : ∀ k, k ≠ 8 → ρ'.1 k = ρ.1 k) (xs : σ'.2 = σ.2) (ms : ρ'.2 = ρ.2) (hq : ∀ q, q < 16 → σ'.1 12 q = if ρ.1 6 q = 0 then -1 else ρ'.1 8 q) : Rl σ' ρ' := by
  obtain ⟨hB, hD, hK, hP, hQ, hT, hG, hS⟩ := h
  refine ⟨hB.cong (fun k hk => xo k (by revert k; decide)) (fun k hk => mo k (by revert k; decide)), hD.cong (mo 2 (by decide)), hK.cong (xo 10 (by decide)) (fun k hk => mo k (by revert k; decide)), ?_, hQ.cong (xo 15 (by decide)) (fun k hk => mo k (by revert k; decide)), hT.cong (xo 8 (by decide)) (fun k hk => mo k (by revert k; decide)), hG.cong (fun k hk => xo k (by revert k; decide)) (fun k hk => mo k (by revert k; decide)), ?_⟩
  · intro q hq'
    obtain ⟨p1, p2, p3, p4, p5, p6, p7, p8⟩ := hP q hq'
    have eb : bk ρ' q = bk ρ q := by unfold bk; rw [mo 7 (by decide)]
    rw [xo 11 (by decide), xo 13 (by decide), xo 14 (by decide), mo 6 (by decide), mo 7 (by decide), mo 9 (by decide), eb]
    exact ⟨p1, p2, p3, p4, p5, p6, hq q hq', p8⟩
  · unfold rS; rw [xs, ms]; exact hS
/-- the children -/
theorem kids_l {p : Nat} {cd x3 : Int32} (hp : p < 16) : ∀ (n i : Nat) (σ ρ : KS), i ≤ 16 → 16 < n + i → Rl σ ρ → rX p σ ρ → ρ.1 6 p = 1 →
    ∃ σ' ρ', f_X2_leaveChildren_2 n (nI p) (nI i) σ = some (0, σ') ∧ (f_X3_exit_81 n (nI p) cd x3 (nI i) ρ = if ρ'.1 8 p = -1 then bnd (m_X3_vanish (nI p) ρ') (fun _ σ_152 => some (0, σ_152)) else some (0, wr (wr ρ' 6 (nI p) 2) 9 (nI p) cd)) ∧ Rl σ' ρ' ∧ rX p σ' ρ' ∧ ρ'.1 6 p = 1 ∧ ρ'.1 7 = ρ.1 7 := by
  intro n
  induction n with
  | zero => intro i σ ρ a b; omega
  | succ n ih =>
    intro i σ ρ a b h hX hl
    rw [f_X2_leaveChildren_2, f_X3_exit_81]
    by_cases e : i = 16
    · subst e
      rw [if_pos (show (16 : Int32) ≤ nI 16 from nI_le (a := 16) (by omega) (by omega)), if_pos (show (16 : Int32) ≤ nI 16 from nI_le (a := 16) (by omega) (by omega)), chk_nI hp (by decide), chk_nI hp (by decide), chk_nI hp (by decide), rd_nI (by omega)]
      exact ⟨σ, ρ, rfl, rfl, h, hX, hl, rfl⟩
    · have hi : i < 16 := by omega
      have hP := h.2.2.2.1
      have hkid := kids hP (v := p) (by omega) hi
      rw [if_neg (show ¬ (16 : Int32) ≤ nI i from nI_ge (b := 16) hi (by omega)), if_neg (show ¬ (16 : Int32) ≤ nI i from nI_ge (b := 16) hi (by omega)), chk_nI hi (by decide), chk_nI hi (by decide), chk_nI hi (by decide), chk_nI hi (by decide), chk_nI hi (by decide), chk_nI hi (by decide), chk_nI hi (by decide), rd_nI (i := i) (k := 12) (by omega), rd_nI (i := i) (k := 11) (by omega), rd_nI (i := i) (k := 6) (by omega), rd_nI (i := i) (k := 8) (by omega), (hP i hi).1, show nI i + 1 = nI (i + 1) from nI_1 i]
      by_cases h0 : ρ.1 6 i = 0
      · rw [if_pos h0, if_neg (fun w => (hkid.mp w).1 h0)]
        exact ih (i + 1) σ ρ (by omega) (by omega) h hX hl
      · rw [if_neg h0]
        by_cases hx : ρ.1 8 i = nI p
        · rw [if_pos hx, if_pos (hkid.mpr ⟨h0, hx⟩)]
          by_cases h2 : ρ.1 6 i = 2
          · rw [if_pos h2, if_pos h2]
            have hne : i ≠ p := fun w => by rw [w, hl] at h2; exact absurd h2 (by decide)
            obtain ⟨σ1, ρ1, g1, g2, hR, fX, fM, e6, s1, s2⟩ := remp h hi h0 ((hP i hi).2.2.2.2.2.1 (by rw [h2]; decide))
            have hX1 : rX p σ1 ρ1 := hX.gone (c := i) (by rw [h2]; decide) 0 (by decide) (fX 16 (by decide) (by decide) (by decide) (by decide) (by decide)) (fM 13 (by decide) (by decide) (by decide) (by decide)) e6 (by rw [s2]) (by rw [s1])
            have hR1 : Rl σ1 (wr ρ1 8 (nI i) (-1)) := hR.par (fun _ _ => rfl) (fun k hk => wr_ne hk) rfl rfl (fun q hq => by
              rw [wr_at (by omega), (hR.2.2.2.1 q hq).2.2.2.2.2.2.1]
              by_cases eq : q = i
              · subst eq; rw [e6, upd_eq, if_pos rfl, if_pos rfl]
              · rw [upd_ne eq])
            have hX2 : rX p σ1 (wr ρ1 8 (nI i) (-1)) := hX1.cong rfl (fun k hk => wr_ne (by revert k; decide)) rfl rfl
            rw [bnd_eq g1, bnd_eq g2, chk_nI hi (by decide)]
            obtain ⟨σ', ρ', t1, t2, t3, t4, t5, t6⟩ := ih (i + 1) σ1 (wr ρ1 8 (nI i) (-1)) (by omega) (by omega) hR1 hX2 (by rw [wr_ne (by decide), e6, upd_ne (fun w => hne w.symm)]; exact hl)
            exact ⟨σ', ρ', t1, t2, t3, t4, t5, by rw [t6, wr_ne (by decide), fM 7 (by decide) (by decide) (by decide) (by decide)]⟩
          · rw [if_neg h2, if_neg h2]
            have hR1 : Rl (wr σ 12 (nI i) (-1)) (wr ρ 8 (nI i) (-1)) := h.par (fun k hk => wr_ne hk) (fun k hk => wr_ne hk) rfl rfl (fun q hq => by
              rw [wr_at (by omega), wr_at (by omega)]
              by_cases eq : q = i
              · subst eq; rw [upd_eq, upd_eq, if_neg h0]
              · rw [upd_ne eq, upd_ne eq]; exact (hP q hq).2.2.2.2.2.2.1)
            have hX1 : rX p (wr σ 12 (nI i) (-1)) (wr ρ 8 (nI i) (-1)) := hX.cong (wr_ne (by decide)) (fun k hk => wr_ne (by revert k; decide)) rfl rfl
            obtain ⟨σ', ρ', t1, t2, t3, t4, t5, t6⟩ := ih (i + 1) _ _ (by omega) (by omega) hR1 hX1 (by rw [wr_ne (by decide)]; exact hl)
            exact ⟨σ', ρ', t1, t2, t3, t4, t5, by rw [t6, wr_ne (by decide)]⟩
        · rw [if_neg hx, if_neg (fun w => hx (hkid.mp w).2)]
          exact ih (i + 1) σ ρ (by omega) (by omega) h hX hl
theorem exit_row {x1 x2 x3 : Int32} {ρ : KS} {m j0 : Nat} {R : Nat → Int32} (hm : m ≤ 16) (h0 : 0 < m) (hl : ρ.2 0 = nI (m - 1)) : ∀ (n i : Nat), j0 ≤ i → i ≤ m - 1 → m < n + i →
    f_X3_exit_30 n x1 x2 x3 (nI i) (setA ρ 13 (shR j0 i R)) = f_X3_exit_61 FU x1 x2 x3 (nI (m - 1)) (setA ρ 13 (shR j0 (m - 1) R)) := by
  intro n
  induction n with
  | zero => intro i a b c; omega
  | succ n ih =>
    intro i a b c
    rw [f_X3_exit_30]
    unfold gv
    rw [setA_2, hl]
    by_cases e : i = m - 1
    · subst e; rw [if_pos (nI_le (Nat.le_refl _) (by omega))]
    · have hr : (setA ρ 13 (shR j0 i R)).1 13 (i + 1) = R (i + 1) := by rw [setA_at]; unfold shR; rw [if_neg (by omega)]
      rw [if_neg (nI_ge (by omega) (by omega)), show nI i + 1 = nI (i + 1) from nI_1 i, chk_nI (by omega) (by decide), chk_nI (by omega) (by decide), rd_nI (by omega), hr, setA_wr (by omega), shR_s a]
      exact ih (i + 1) (by omega) (by omega) (by omega)
theorem sim_exit : ∀ (a b : Int32) (σ ρ : KS), Rel σ ρ → ∃ (r : Int32) (σ' ρ' : KS), m_X2_exit a b σ = some (r, σ') ∧ m_X3_exit a b ρ = some (r, ρ') ∧ Rel σ' ρ' := by
  intro a cd σ ρ h
  unfold m_X2_exit m_X3_exit
  rcases live_cases h.2.2.2.1 a with ⟨p, hp, rfl, hl, -, r1, r2⟩ | ⟨r1, r2⟩
  · rw [bnd_eq r1, if_neg (by decide), bnd_eq r2, if_neg (by decide)]
    obtain ⟨m, n1, n2, n3, n4, n5, n6⟩ := h.2.2.2.2.2.2.2.1
    obtain ⟨r, -, w2, hr⟩ := row_l (x := nI p) n1 n2 n3 (fun i hi => (n4 i hi).1) FU 0 (by omega) (show m < 1100 + 0 by omega)
    obtain ⟨j0, j1, rfl, j2⟩ : ∃ j, j < m ∧ r = nI j ∧ ρ.1 13 j = nI p := by
      rcases hr with ⟨-, q⟩ | ⟨j, -, q2, q3, q4⟩
      · obtain ⟨i, i1, i2⟩ := n6 p hp hl
        exact absurd i2 (q i (Nat.zero_le _) i1)
      · exact ⟨j, q2, q3, q4⟩
    have hlr := leaveRow_t (σ := σ) (x := nI p) (j0 := j0) n1 n2 j1 (by rw [(n4 j0 j1).1]; exact j2) (fun i hi hne q => hne (n5 i j0 hi j1 (by rw [← (n4 i hi).1, q, j2])))
    obtain ⟨σ1, hσ1⟩ : ∃ z, z = sv (setA σ 16 (shR j0 (m - 1) (σ.1 16))) 0 (nI (m - 1)) := ⟨_, rfl⟩
    rw [← hσ1] at hlr
    have x16 : σ1.1 16 = shR j0 (m - 1) (σ.1 16) := by rw [hσ1, sv_1, setA_at]
    have xo : ∀ k, k ≠ 16 → σ1.1 k = σ.1 k := fun k hk => by rw [hσ1, sv_1, setA_ne hk]
    have xs0 : σ1.2 0 = nI (m - 1) := by rw [hσ1, sv_at]
    have xs : ∀ j, j ≠ 0 → σ1.2 j = σ.2 j := fun j hj => by rw [hσ1, sv_ne hj, setA_2]
    obtain ⟨ρ0, hρ0⟩ : ∃ z, z = sv ρ 0 (nI (m - 1)) := ⟨_, rfl⟩
    have y0 : ρ0.2 0 = nI (m - 1) := by rw [hρ0, sv_at]
    have y1 : ρ0.1 = ρ.1 := by rw [hρ0, sv_1]
    obtain ⟨ρ1, hρ1⟩ : ∃ z, z = setA ρ0 13 (shR j0 (m - 1) (ρ.1 13)) := ⟨_, rfl⟩
    have m13 : ρ1.1 13 = shR j0 (m - 1) (ρ.1 13) := by rw [hρ1, setA_at]
    have mo : ∀ k, k ≠ 13 → ρ1.1 k = ρ.1 k := fun k hk => by rw [hρ1, setA_ne hk, y1]
    have ms0 : ρ1.2 0 = nI (m - 1) := by rw [hρ1, setA_2]; exact y0
    have ms : ∀ j, j ≠ 0 → ρ1.2 j = ρ.2 j := fun j hj => by rw [hρ1, setA_2, hρ0, sv_ne hj]
    have her := exit_row (x1 := nI p) (x2 := cd) (x3 := nI j0) (ρ := ρ0) (R := ρ.1 13) n1 (by omega) y0 FU j0 (Nat.le_refl _) (by omega) (show m < 1100 + j0 by omega)
    rw [shR_0, show setA ρ0 13 (ρ.1 13) = ρ0 by rw [← y1, setA_self], ← hρ1] at her
    have hv : ∀ i, i < m - 1 → shR j0 (m - 1) (ρ.1 13) i = ρ.1 13 (if i < j0 then i else i + 1) := fun i hi => by
      unfold shR
      by_cases q : i < j0
      · rw [if_neg (by omega), if_pos q]
      · rw [if_pos (by omega), if_neg q]
    have hvX : ∀ i, i < m - 1 → shR j0 (m - 1) (σ.1 16) i = shR j0 (m - 1) (ρ.1 13) i := fun i hi => by
      unfold shR
      by_cases q : j0 ≤ i ∧ i < m - 1
      · rw [if_pos q, if_pos q]; exact (n4 (i + 1) (by omega)).1
      · rw [if_neg q, if_neg q]; exact (n4 i (by omega)).1
    have hR1 : Rl σ1 ρ1 := by
      obtain ⟨hB, hD, hK, hP, hQ, hT, hG, hS⟩ := h.l
      refine ⟨hB.cong (fun k hk => xo k (by revert k; decide)) (fun k hk => mo k (by revert k; decide)), hD.cong (mo 2 (by decide)), hK.cong (xo 10 (by decide)) (fun k hk => mo k (by revert k; decide)), hP.cong (fun k hk => xo k (by revert k; decide)) (fun k hk => mo k (by revert k; decide)), hQ.cong (xo 15 (by decide)) (fun k hk => mo k (by revert k; decide)), hT.cong (xo 8 (by decide)) (fun k hk => mo k (by revert k; decide)), hG.cong (fun k hk => xo k (by revert k; decide)) (fun k hk => mo k (by revert k; decide)), ?_⟩
      unfold rS; rw [xs 1 (by decide), xs 2 (by decide), xs 3 (by decide), ms 1 (by decide), ms 2 (by decide), ms 3 (by decide)]; exact hS
    have hX1 : rX p σ1 ρ1 := by
      refine ⟨m - 1, by omega, xs0, ms0, fun i hi => ⟨?_, ?_⟩, fun i j hi hj e => ?_, fun q hq hne hlq => ?_⟩
      · rw [x16, m13]; exact hvX i hi
      · rw [m13, hv i hi, mo 6 (by decide)]
        obtain ⟨-, q, q1, q2, q3⟩ := n4 (if i < j0 then i else i + 1) (by split <;> omega)
        refine ⟨q, q1, fun w => ?_, q2, q3⟩
        rw [w, ← j2] at q2
        have := n5 _ _ (by split <;> omega) j1 q2
        split at this <;> omega
      · rw [m13, hv i hi, hv j hj] at e
        have := n5 _ _ (by split <;> omega) (by split <;> omega) e
        split at this <;> split at this <;> omega
      · rw [mo 6 (by decide)] at hlq
        obtain ⟨i, i1, i2⟩ := n6 q hq hlq
        have hij : i ≠ j0 := fun w => by rw [w, j2] at i2; exact hne ((nI_eq (by omega) (by omega)).mp i2).symm
        refine ⟨if i < j0 then i else i - 1, by split <;> omega, ?_⟩
        rw [m13, hv _ (by split <;> omega), ← i2]
        by_cases q : i < j0
        · rw [if_pos q, if_pos q]
        · rw [if_neg q, if_neg (by omega), show i - 1 + 1 = i by omega]
    have hl1 : ρ1.1 6 p = 1 := by rw [mo 6 (by decide)]; exact hl
    have b5 := (hR1.2.2.2.1 p hp).2.2.2.2.1
    obtain ⟨σ2, ρ2, s1, s2, hR2, hb2, xo2, mo2, m72, xs2, ms2, -, -, -⟩ := shrink (b := 0) hp (bk ρ1 p) FU σ1 ρ1 hR1 hl1 (by omega) (show bk ρ1 p < 1100 by omega)
    have hst : m_X2_shrinkTo (nI p) 0 σ1 = some (0, σ2) := by
      unfold m_X2_shrinkTo
      rw [chk_nI hp (by decide), rd_nI (by omega), (hR1.2.2.2.1 p hp).2.2.1, (hR1.2.2.2.1 p hp).2.2.2.1]
      rw [Nat.zero_add] at s1
      exact s1
    have hX2 : rX p σ2 ρ2 := hX1.cong (xo2 16 (by decide) (by decide) (by decide) (by decide) (by decide)) (fun k hk => mo2 k (by revert k; decide) (by revert k; decide) (by revert k; decide) (by revert k; decide)) (by rw [xs2]) (by rw [ms2])
    have hl2 : ρ2.1 6 p = 1 := by rw [mo2 6 (by decide) (by decide) (by decide) (by decide)]; exact hl1
    have hex := s2 (fun n τ => f_X3_exit_61 n (nI p) cd (nI j0) (nI (m - 1)) τ) (fun τ => f_X3_exit_81 FU (nI p) cd (nI j0) 0 τ) FU (fun n τ c e hc => by
      show f_X3_exit_61 (n + 1) _ _ _ _ τ = _
      rw [f_X3_exit_61, chk_nI hp (by decide), rd_nI (by omega), e, if_neg (fun w => by have := (nI_le0 (by omega)).mp w; omega)]) (fun n τ e => by
      show f_X3_exit_61 (n + 1) _ _ _ _ τ = _
      rw [f_X3_exit_61, chk_nI hp (by decide), rd_nI (by omega), e, if_pos (show nI 0 ≤ 0 by decide)]) (show bk ρ1 p < 1100 by omega)
    obtain ⟨σ3, ρ3, t1, t2, hR3, hX3, hl3, e73⟩ := kids_l (cd := cd) (x3 := nI j0) hp FU 0 σ2 ρ2 (by omega) (by decide) hR2 hX2 hl2
    have hb3 : bk ρ3 p = 0 := by unfold bk; rw [e73]; exact hb2
    have hpp := (hR3.2.2.2.1 p hp).2.2.2.2.2.2.1
    rw [if_neg (by rw [hl3]; decide)] at hpp
    have hMM : f_X3_exit_30 FU (nI p) cd (nI j0) (nI j0) ρ0 = if ρ3.1 8 p = -1 then bnd (m_X3_vanish (nI p) ρ3) (fun _ σ_152 => some (0, σ_152)) else some (0, wr (wr ρ3 6 (nI p) 2) 9 (nI p) cd) := by
      rw [her]
      exact (show f_X3_exit_61 FU (nI p) cd (nI j0) (nI (m - 1)) ρ1 = _ from hex).trans t2
    have hrows : sv ρ 0 (gv ρ 0 - 1) = ρ0 := by
      unfold gv
      rw [n3, hρ0, show nI m - 1 = nI (m - 1) from pk_sub (a := m) (b := 1) (by omega)]
    rw [bnd_eq hlr, bnd_eq hst, bnd_eq (show m_X2_leaveChildren (nI p) σ2 = _ from t1), chk_nI hp (by decide), chk_nI hp (by decide), chk_nI hp (by decide), rd_nI (by omega), hpp, bnd_eq (show m_X3_placeInRow (nI p) ρ = _ from w2), hrows, hMM]
    by_cases hpar : ρ3.1 8 p = -1
    · obtain ⟨σ4, ρ4, g1, g2, hR4, fX, fM, e6, sM, sX⟩ := remp hR3 hp (by rw [hl3]; decide) hb3
      rw [if_pos hpar, if_pos hpar, bnd_eq g1, bnd_eq g2]
      refine ⟨0, σ4, ρ4, rfl, rfl, hR4.rel ?_⟩
      exact hX3.back 0 (by decide) (fX 16 (by decide) (by decide) (by decide) (by decide) (by decide)) (fM 13 (by decide) (by decide) (by decide) (by decide)) e6 (by rw [sX]) (by rw [sM])
    · rw [if_neg hpar, if_neg hpar]
      refine ⟨0, wr (wr σ3 11 (nI p) 2) 13 (nI p) cd, wr (wr ρ3 6 (nI p) 2) 9 (nI p) cd, rfl, rfl, Rl.rel ?_ ?_⟩
      · obtain ⟨hB, hD, hK, hP, hQ, hT, hG, hS⟩ := hR3
        have fX : ∀ k, k ≠ 11 → k ≠ 13 → (wr (wr σ3 11 (nI p) 2) 13 (nI p) cd).1 k = σ3.1 k := fun k a b => by rw [wr_ne b, wr_ne a]
        have fM : ∀ k, k ≠ 6 → k ≠ 9 → (wr (wr ρ3 6 (nI p) 2) 9 (nI p) cd).1 k = ρ3.1 k := fun k a b => by rw [wr_ne b, wr_ne a]
        have f6 : (wr (wr ρ3 6 (nI p) 2) 9 (nI p) cd).1 6 = upd (ρ3.1 6) p 2 := by rw [wr_ne (by decide), wr_at (by omega)]
        have erc : ∀ q, rcN (wr (wr ρ3 6 (nI p) 2) 9 (nI p) cd) q = rcN ρ3 q := fun q => by unfold rcN; rw [fM 10 (by decide) (by decide)]
        have n0 : ∀ q, ¬ upd (ρ3.1 6) p 2 q = 0 → ¬ ρ3.1 6 q = 0 := fun q w => by
          by_cases eq : q = p
          · rw [eq, hl3]; decide
          · rw [upd_ne eq] at w; exact w
        refine ⟨hB.cong (fun k hk => fX k (by revert k; decide) (by revert k; decide)) (fun k hk => fM k (by revert k; decide) (by revert k; decide)), hD.cong (fM 2 (by decide) (by decide)), hK.cong (fX 10 (by decide) (by decide)) (fun k hk => fM k (by revert k; decide) (by revert k; decide)), ?_, ⟨?_, ?_⟩, hT.cong (fX 8 (by decide) (by decide)) (fun k hk => fM k (by revert k; decide) (by revert k; decide)), hG.cong (fun k hk => fX k (by revert k; decide) (by revert k; decide)) (fun k hk => fM k (by revert k; decide) (by revert k; decide)), hS⟩
        · intro q hq
          obtain ⟨p1, p2, p3, p4, p5, p6, p7, p8⟩ := hP q hq
          have eb : bk (wr (wr ρ3 6 (nI p) 2) 9 (nI p) cd) q = bk ρ3 q := by unfold bk; rw [fM 7 (by decide) (by decide)]
          rw [f6, eb, fX 12 (by decide) (by decide), fX 14 (by decide) (by decide), fM 7 (by decide) (by decide), fM 8 (by decide) (by decide), wr_ne (k := 13) (k' := 11) (by decide), wr_at (by omega), wr_at (by omega), wr_ne (k := 11) (k' := 13) (by decide), wr_at (k := 9) (by omega), wr_ne (k := 6) (k' := 9) (by decide)]
          by_cases eq : q = p
          · subst eq
            rw [upd_eq, upd_eq, upd_eq, upd_eq]
            rw [if_neg (by rw [hl3]; decide)] at p7
            exact ⟨rfl, Or.inr (Or.inr rfl), p3, p4, p5, fun _ => hb3, by rw [if_neg (by decide)]; exact p7, rfl⟩
          · rw [upd_ne eq, upd_ne eq, upd_ne eq, upd_ne eq]
            exact ⟨p1, p2, p3, p4, p5, p6, p7, p8⟩
        · intro q hq hn
          rw [f6] at hn
          rw [erc, fM 10 (by decide) (by decide), fM 3 (by decide) (by decide), fM 2 (by decide) (by decide), fX 15 (by decide) (by decide)]
          exact hQ.1 q hq (n0 q hn)
        · intro q q' hq hq' hn hn' e
          rw [f6] at hn hn'
          rw [erc, erc] at e
          exact hQ.2 q q' hq hq' (n0 q hn) (n0 q' hn') e
      · exact hX3.back 2 (by decide) (by rw [wr_ne (by decide), wr_ne (by decide)]) (by rw [wr_ne (by decide), wr_ne (by decide)]) (by rw [wr_ne (by decide), wr_at (by omega)]) rfl rfl
  · rw [bnd_eq r1, if_pos rfl, bnd_eq r2, if_pos rfl]; exact ⟨-2, σ, ρ, rfl, rfl, h⟩
