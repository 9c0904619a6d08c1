/-! PURE: a new process; spawn -/
theorem newp {σ ρ : KS} {p r : Nat} {par : Int32} (h : Rl σ ρ) (hR : rR σ ρ) (hp : p < 16) (h0 : ρ.1 6 p = 0) (hr : r < 512) (hu : ρ.1 3 r = 1) (hk : ρ.1 2 (r / 4) = nI 1) (hn : ∀ q, q < 16 → ¬ ρ.1 6 q = 0 → rcN ρ q ≠ r) :
    ∃ σ' ρ', m_X2_joinRow (nI p) (wr (wr (wr σ 15 (nI p) (nI r)) 11 (nI p) 1) 12 (nI p) par) = some (0, σ') ∧ m_X3_begin (nI p) (nI r) par ρ = some (0, ρ') ∧ Rel σ' ρ' ∧ (∀ k, k ≠ 11 → k ≠ 12 → k ≠ 15 → k ≠ 16 → σ'.1 k = σ.1 k) ∧ (∀ k, k ≠ 6 → k ≠ 8 → k ≠ 10 → k ≠ 13 → ρ'.1 k = ρ.1 k) ∧ ρ'.1 6 = upd (ρ.1 6) p 1 ∧ ρ'.1 10 = upd (ρ.1 10) p (nI r) ∧ (∀ j, j ≠ 0 → ρ'.2 j = ρ.2 j) ∧ (∀ j, j ≠ 0 → σ'.2 j = σ.2 j) ∧ σ'.1 15 = upd (σ.1 15) p (nI r) ∧ σ'.1 11 = upd (σ.1 11) p 1 ∧ σ'.1 12 = upd (σ.1 12) p par ∧ ρ'.1 8 = upd (ρ.1 8) p par := by
  obtain ⟨hB, hD, hK, hP, hQ, hT, hG, hS⟩ := h
  obtain ⟨n, n1, n2, n3, n4, n5, n6⟩ := hR
  have hb0 : bk ρ p = 0 := (hP p hp).2.2.2.2.2.1 (by rw [h0]; decide)
  have h7 : ρ.1 7 p = 0 := by rw [(hP p hp).2.2.2.1, hb0]; rfl
  have hroom : n < 16 := row_room (R := ρ.1 13) (x := p) n1 hp (fun i hi => by
    obtain ⟨-, q, q1, q2, q3⟩ := n4 i hi
    exact ⟨q, q1, fun e => by rw [e, h0] at q3; exact absurd q3 (by decide), q2⟩) n5
  -- the class
  obtain ⟨σ1, hσ1⟩ : ∃ z, z = wr (wr (wr σ 15 (nI p) (nI r)) 11 (nI p) 1) 12 (nI p) par := ⟨_, rfl⟩
  have a0 : σ1.2 = σ.2 := by rw [hσ1]; rfl
  have a15 : σ1.1 15 = upd (σ.1 15) p (nI r) := by rw [hσ1, wr_ne (by decide), wr_ne (by decide), wr_at (by omega)]
  have a11 : σ1.1 11 = upd (σ.1 11) p 1 := by rw [hσ1, wr_ne (by decide), wr_at (by omega), wr_ne (by decide)]
  have a12 : σ1.1 12 = upd (σ.1 12) p par := by rw [hσ1, wr_at (by omega), wr_ne (by decide), wr_ne (by decide)]
  have ao : ∀ k, k ≠ 11 → k ≠ 12 → k ≠ 15 → σ1.1 k = σ.1 k := fun k b c d => by rw [hσ1, wr_ne c, wr_ne b, wr_ne d]
  have hj := joinRow_t (σ := σ1) (x := nI p) (m := n) hroom (by rw [a0]; exact n2)
  rw [ao 16 (by decide) (by decide) (by decide)] at hj
  obtain ⟨σ2, hσ2⟩ : ∃ z, z = sv (setA σ1 16 (upd (σ.1 16) n (nI p))) 0 (nI (n + 1)) := ⟨_, rfl⟩
  have bo : ∀ k, k ≠ 16 → σ2.1 k = σ1.1 k := fun k b => by rw [hσ2, sv_1, setA_ne b]
  have b16 : σ2.1 16 = upd (σ.1 16) n (nI p) := by rw [hσ2, sv_1, setA_at]
  have b0 : σ2.2 0 = nI (n + 1) := by rw [hσ2, sv_at]
  have bs : ∀ j, j ≠ 0 → σ2.2 j = σ.2 j := fun j hj => by rw [hσ2, sv_ne hj, setA_2, a0]
  -- the reference
  obtain ⟨ρ1, hρ1⟩ : ∃ z, z = wr (wr (wr (wr ρ 6 (nI p) 1) 10 (nI p) (nI r)) 8 (nI p) par) 7 (nI p) 0 := ⟨_, rfl⟩
  have c0 : ρ1.2 = ρ.2 := by rw [hρ1]; rfl
  obtain ⟨ρ2, hρ2⟩ : ∃ z, z = sv (wr ρ1 13 (nI n) (nI p)) 0 (nI (n + 1)) := ⟨_, rfl⟩
  have hbg : m_X3_begin (nI p) (nI r) par ρ = some (0, ρ2) := by
    unfold m_X3_begin
    rw [← hρ1]
    unfold gv
    rw [wr_2, c0, n3, chk_nI hp (by decide), chk_nI hp (by decide), chk_nI hp (by decide), chk_nI hp (by decide), chk_nI hroom (by decide), show nI n + 1 = nI (n + 1) from nI_1 n, hρ2]
  have d6 : ρ2.1 6 = upd (ρ.1 6) p 1 := by rw [hρ2, sv_1, wr_ne (by decide), hρ1, wr_ne (by decide), wr_ne (by decide), wr_ne (by decide), wr_at (by omega)]
  have d10 : ρ2.1 10 = upd (ρ.1 10) p (nI r) := by rw [hρ2, sv_1, wr_ne (by decide), hρ1, wr_ne (by decide), wr_ne (by decide), wr_at (by omega), wr_ne (by decide)]
  have d8 : ρ2.1 8 = upd (ρ.1 8) p par := by rw [hρ2, sv_1, wr_ne (by decide), hρ1, wr_ne (by decide), wr_at (by omega), wr_ne (by decide), wr_ne (by decide)]
  have d7 : ρ2.1 7 = ρ.1 7 := by
    rw [hρ2, sv_1, wr_ne (by decide), hρ1, wr_at (by omega), wr_ne (by decide), wr_ne (by decide), wr_ne (by decide)]
    have := upd_self (f := ρ.1 7) (i := p)
    rw [h7] at this
    exact this
  have d13 : ρ2.1 13 = upd (ρ.1 13) n (nI p) := by rw [hρ2, sv_1, wr_at (by omega), hρ1, wr_ne (by decide), wr_ne (by decide), wr_ne (by decide), wr_ne (by decide)]
  have do' : ∀ k, k ≠ 6 → k ≠ 8 → k ≠ 10 → k ≠ 13 → ρ2.1 k = ρ.1 k := fun k x6 x8 x10 x13 => by
    by_cases x7 : k = 7
    · subst x7; exact d7
    · rw [hρ2, sv_1, wr_ne x13, hρ1, wr_ne x7, wr_ne x8, wr_ne x10, wr_ne x6]
  have e0 : ρ2.2 0 = nI (n + 1) := by rw [hρ2, sv_at]
  have es : ∀ j, j ≠ 0 → ρ2.2 j = ρ.2 j := fun j hj => by rw [hρ2, sv_ne hj, wr_2, c0]
  have ebk : ∀ q, bk ρ2 q = bk ρ q := fun q => by unfold bk; rw [d7]
  have erc : ∀ q, q ≠ p → rcN ρ2 q = rcN ρ q := fun q hq => by unfold rcN; rw [d10, upd_ne hq]
  have ercp : rcN ρ2 p = r := by unfold rcN; rw [d10, upd_eq, nI_clamp (by omega)]
  have fX : ∀ k, k ≠ 11 → k ≠ 12 → k ≠ 15 → k ≠ 16 → σ2.1 k = σ.1 k := fun k x y z w => by rw [bo k w, ao k x y z]
  refine ⟨σ2, ρ2, by rw [← hσ1, hj, hσ2], hbg, ⟨hB.cong (fun k hk => fX k (by revert k; decide) (by revert k; decide) (by revert k; decide) (by revert k; decide)) (fun k hk => do' k (by revert k; decide) (by revert k; decide) (by revert k; decide) (by revert k; decide)), hD.cong (do' 2 (by decide) (by decide) (by decide) (by decide)), hK.cong (fX 10 (by decide) (by decide) (by decide) (by decide)) (fun k hk => do' k (by revert k; decide) (by revert k; decide) (by revert k; decide) (by revert k; decide)), ?_, ⟨?_, ?_⟩, ⟨?_, ?_⟩, hG.cong (fun k hk => fX k (by revert k; decide) (by revert k; decide) (by revert k; decide) (by revert k; decide)) (fun k hk => do' k (by revert k; decide) (by revert k; decide) (by revert k; decide) (by revert k; decide)), ?_, ?_⟩, fX, do', d6, d10, es, bs, by rw [bo 15 (by decide), a15], by rw [bo 11 (by decide), a11], by rw [bo 12 (by decide), a12], d8⟩
  · intro q hq
    obtain ⟨p1, p2, p3, p4, p5, p6, p7, p8⟩ := hP q hq
    rw [bo 11 (by decide), a11, bo 12 (by decide), a12, d6, d8, ebk q, fX 14 (by decide) (by decide) (by decide) (by decide), fX 13 (by decide) (by decide) (by decide) (by decide), d7, do' 9 (by decide) (by decide) (by decide) (by decide)]
    by_cases e : q = p
    · subst e
      rw [upd_eq, upd_eq, upd_eq, upd_eq]
      exact ⟨rfl, Or.inr (Or.inl rfl), p3, p4, p5, fun w => absurd rfl w, by rw [if_neg (by decide)], p8⟩
    · rw [upd_ne e, upd_ne e, upd_ne e, upd_ne e]
      exact ⟨p1, p2, p3, p4, p5, p6, p7, p8⟩
  · intro q hq hnq
    rw [bo 15 (by decide), a15, do' 3 (by decide) (by decide) (by decide) (by decide), do' 2 (by decide) (by decide) (by decide) (by decide)]
    by_cases e : q = p
    · subst e
      rw [ercp, d10, upd_eq, upd_eq]
      exact ⟨hr, rfl, rfl, hu, hk⟩
    · rw [d6, upd_ne e] at hnq
      rw [erc q e, d10, upd_ne e, upd_ne e]
      exact hQ.1 q hq hnq
  · intro q q' hq hq' hnq hnq' e
    rw [d6] at hnq hnq'
    by_cases e1 : q = p
    · subst e1
      by_cases e2 : q' = q
      · exact e2.symm
      · rw [upd_ne e2] at hnq'
        rw [ercp, erc q' e2] at e
        exact absurd e.symm (hn q' hq' hnq')
    · rw [upd_ne e1] at hnq
      by_cases e2 : q' = p
      · subst e2
        rw [ercp, erc q e1] at e
        exact absurd e (hn q hq hnq)
      · rw [upd_ne e2] at hnq'
        rw [erc q e1, erc q' e2] at e
        exact hQ.2 q q' hq hq' hnq hnq' e
  · intro q t hq ht
    rw [ebk q] at ht
    have e : q ≠ p := fun e => by rw [e, hb0] at ht; omega
    have etb : tbN ρ2 q t = tbN ρ q t := by unfold tbN; rw [do' 12 (by decide) (by decide) (by decide) (by decide)]
    rw [etb, erc q e, do' 12 (by decide) (by decide) (by decide) (by decide), do' 3 (by decide) (by decide) (by decide) (by decide), do' 2 (by decide) (by decide) (by decide) (by decide), fX 8 (by decide) (by decide) (by decide) (by decide)]
    exact hT.1 q t hq ht
  · intro q t q' t' hq hq' ht ht' e
    have etb : ∀ q t, tbN ρ2 q t = tbN ρ q t := fun q t => by unfold tbN; rw [do' 12 (by decide) (by decide) (by decide) (by decide)]
    rw [ebk q] at ht
    rw [ebk q'] at ht'
    rw [etb, etb] at e
    exact hT.2 q t q' t' hq hq' ht ht' e
  · refine ⟨n + 1, by omega, b0, e0, fun i hi => ?_, fun i j hi hj e => ?_, fun q hq hl => ?_⟩
    · rw [b16, d13, d6]
      by_cases e : i = n
      · subst e; rw [upd_eq, upd_eq]; exact ⟨rfl, p, hp, rfl, by rw [upd_eq]⟩
      · rw [upd_ne e, upd_ne e]
        obtain ⟨x1, q, q1, q2, q3⟩ := n4 i (by omega)
        refine ⟨x1, q, q1, q2, ?_⟩
        by_cases eq : q = p
        · rw [eq, upd_eq]
        · rw [upd_ne eq]; exact q3
    · rw [d13] at e
      have np : ∀ i, i < n → ¬ ρ.1 13 i = nI p := fun i hi w => by
        obtain ⟨-, q, q1, q2, q3⟩ := n4 i hi
        rw [q2] at w
        have := (nI_eq (by omega) (by omega)).mp w
        rw [this, h0] at q3
        exact absurd q3 (by decide)
      by_cases e1 : i = n
      · subst e1
        by_cases e2 : j = i
        · exact e2.symm
        · rw [upd_eq, upd_ne e2] at e; exact absurd e.symm (np j (by omega))
      · by_cases e2 : j = n
        · subst e2; rw [upd_ne e1, upd_eq] at e; exact absurd e (np i (by omega))
        · rw [upd_ne e1, upd_ne e2] at e; exact n5 i j (by omega) (by omega) e
    · rw [d6] at hl
      rw [d13]
      by_cases e : q = p
      · subst e; exact ⟨n, by omega, by rw [upd_eq]⟩
      · rw [upd_ne e] at hl
        obtain ⟨i, i1, i2⟩ := n6 q hq hl
        exact ⟨i, by omega, by rw [upd_ne (by omega)]; exact i2⟩
  · unfold rS; rw [bs 1 (by decide), bs 2 (by decide), bs 3 (by decide), es 1 (by decide), es 2 (by decide), es 3 (by decide)]; exact hS
theorem isNumber_m {σ : KS} : m_X2_isNumber (-1) σ = some (0, σ) := isNumber_f (Or.inl (by decide))
theorem sim_spawn : ∀ (σ ρ : KS), Rel σ ρ → ∃ (r : Int32) (σ' ρ' : KS), m_X2_spawn σ = some (r, σ') ∧ m_X3_spawn ρ = some (r, ρ') ∧ Rel σ' ρ' := by
  intro σ ρ h
  unfold m_X2_spawn m_X2_makeProcess m_X3_spawn
  rcases unused_t h.2.2.2.1 with ⟨p, hp, h0, r1, r2⟩ | ⟨r1, r2⟩
  · rw [bnd_eq r2, if_pos (show (0 : Int32) ≤ nI p from nI_le (a := 0) (by omega) (by omega)), bnd_eq r1, bnd_eq (isNumber_t hp), if_neg (by decide)]
    obtain ⟨ρ1, rl, s1, l1, l2, l3⟩ := layAside_t (ρ := ρ) (fun i hi => fr01 h.1.2.1 hi) (fun i hi => us01 h.1 hi)
    have e1 : ∀ k, k < 14 → ρ1.1 k = ρ.1 k := fun k hk => s1.2 k (by intro q; rcases List.mem_cons.mp q with q | q; omega; rcases List.mem_cons.mp q with q | q; omega; rcases List.mem_cons.mp q with q | q; omega; cases q)
    have hB1 : rB σ ρ1 := h.1.cong (fun _ _ => rfl) (fun k hk => e1 k (by revert k; decide))
    obtain ⟨r, σ1, ρ2, t1, t2, hc⟩ := pairT_r hB1
    have t2 : m_X3_takeSmall 1 ρ1 = some (r, ρ2) := t2
    rw [bnd_eq rl, bnd_eq t2, bnd_eq t1]
    rcases hc with ⟨rfl, rfl, rfl⟩ | ⟨x, hx, rfl, hu0, hk0, sx, sm', e2, e3, hB2⟩
    · obtain ⟨ρ3, rf, s2, d1, d2, d3⟩ := fail_t (ρ := ρ2) (fun i hi => by rw [l1 i hi]; exact fr01 h.1.2.1 hi) (fun i hi => by rw [l3 i hi]; exact us01 h.1 hi)
      rw [if_pos rfl, if_neg (by decide), bnd_eq rf]
      refine ⟨-3, sv σ1 2 (σ1.2 2 + 1), sv ρ3 2 (ρ2.2 2 + 1), ?_, rfl, refused h s1 l1 l2 l3 s2 d1 d2 d3⟩
      rfl
    · have hR1 : Rl σ ρ1 := by
        obtain ⟨-, hD, hK, hP, hQ, hT, hG, hS⟩ := h.l
        exact ⟨hB1, hD.cong (e1 2 (by decide)), hK.cong rfl (fun k hk => e1 k (by revert k; decide)), hP.cong (fun _ _ => rfl) (fun k hk => e1 k (by revert k; decide)), hQ.cong rfl (fun k hk => e1 k (by revert k; decide)), hT.cong rfl (fun k hk => e1 k (by revert k; decide)), hG.cong (fun _ _ => rfl) (fun k hk => e1 k (by revert k; decide)), by unfold rS; rw [s1.1]; exact hS⟩
      have hrow1 : rR σ ρ1 := h.2.2.2.2.2.2.2.1.cong rfl (fun k hk => e1 k (by revert k; decide)) rfl (by rw [s1.1])
      obtain ⟨kp, k3, k4, kd, ku, kk⟩ := take_keep (s := 1) (Or.inl rfl) hx hu0 hk0 e2 e3
      have hR2 : Rl σ1 ρ2 := hR1.places (Or.inl rfl) sx sm' hB2 kp k3 k4 kd (fun _ _ _ => id) (fun _ _ _ _ => id)
      have m2 : ∀ k, 4 ≤ k → ρ2.1 k = ρ1.1 k := fun k hk => sm'.2 k (by intro q; rcases List.mem_cons.mp q with q | q; omega; rcases List.mem_cons.mp q with q | q; omega; rcases List.mem_cons.mp q with q | q; omega; cases q)
      have hrow2 : rR σ1 ρ2 := hrow1.cong (sx.2 16 (by decide)) (fun k hk => m2 k (by revert k; decide)) (by rw [sx.1]) (by rw [sm'.1])
      obtain ⟨σ3, ρ3, j1, j2, hRel, -⟩ := newp (par := -1) hR2 hrow2 hp (by rw [m2 6 (by decide), e1 6 (by decide)]; exact h0) hx ku kk (fun q hq hn e => by
        rw [m2 6 (by decide)] at hn
        obtain ⟨y1, y2, y3, y4, y5⟩ := hR1.2.2.2.2.1.1 q hq hn
        have : rcN ρ2 q = rcN ρ1 q := by unfold rcN; rw [m2 10 (by decide)]
        rw [this] at e
        rw [e, hu0] at y4
        exact absurd y4 (by decide))
      rw [if_neg (nI_m1 (by omega)), if_pos (show (0 : Int32) ≤ nI x from nI_le (a := 0) (by omega) (by omega)), bnd_eq j2]
      refine ⟨nI p, σ3, ρ3, ?_, rfl, hRel⟩
      have hl : m_X2_isLive (-1) (wr σ1 15 (nI p) (nI x)) = some (0, wr σ1 15 (nI p) (nI x)) := isLiveX_f fun q hq e => absurd e (m1_nI (by omega))
      rw [chk_nI hp (by decide), bnd_eq hl, if_pos rfl, chk_nI hp (by decide), chk_nI hp (by decide), bnd_eq j1]
      rfl
  · rw [bnd_eq r2, if_neg (by decide), bnd_eq r1, bnd_eq isNumber_m, if_pos rfl]
    exact ⟨-4, σ, ρ, rfl, rfl, h⟩
