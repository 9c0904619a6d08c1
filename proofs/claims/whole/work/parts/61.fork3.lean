/-! PURE: fork: the whole of it -/
theorem wr_isA {σ : KS} {k i : Nat} {x : Int32} (h : i < 2 ^ 31) : wr σ k (nI i) x = setA σ k (upd (σ.1 k) i x) := by
  have := setA_wr (σ := σ) (k := k) (f := σ.1 k) (x := x) h
  rw [setA_self] at this
  exact this
theorem sim_fork : ∀ (a : Int32) (σ ρ : KS), Rel σ ρ → ∃ (r : Int32) (σ' ρ' : KS), m_X2_fork a σ = some (r, σ') ∧ m_X3_fork a ρ = some (r, ρ') ∧ Rel σ' ρ' := by
  intro x σ ρ h
  unfold m_X2_fork m_X3_fork
  rcases live_cases h.2.2.2.1 x with ⟨a, ha, rfl, hl, hlX, r1, r2⟩ | ⟨r1, r2⟩
  · rw [bnd_eq r1, bnd_eq r2, if_neg (show ¬ (1 : Int32) = 0 by decide), if_neg (show ¬ (1 : Int32) = 0 by decide)]
    rcases unused_t h.2.2.2.1 with ⟨c, hc, h0, u1, u2⟩ | ⟨u1, u2⟩
    · have hac : a ≠ c := fun e => by rw [e, h0] at hl; exact absurd hl (by decide)
      obtain ⟨b, hb⟩ : ∃ b, b = bk ρ a := ⟨_, rfl⟩
      obtain ⟨-, -, p3, p4, p5, -, -, -⟩ := h.2.2.2.1 a ha
      rw [← hb] at p4 p5
      obtain ⟨ρ1, rl, s1, l1, l2, l3⟩ := layAside_t (ρ := ρ) (fun i hi => fr01 h.1.2.1 hi) (fun i hi => us01 h.1 hi)
      have e1 : ∀ k, k < 14 → ρ1.1 k = ρ.1 k := fun k hk => s1.2 k (mem3 (by omega) (by omega) (by omega))
      have h1 : Rel σ ρ1 := aside_rel h e1 s1.1
      have l1' : ∀ i, i < 1024 → ρ1.1 14 i = ρ1.1 1 i := fun i hi => by rw [l1 i hi, e1 1 (by decide)]
      have l2' : ∀ i, i < 128 → ρ1.1 15 i = ρ1.1 2 i := fun i hi => by rw [l2 i hi, e1 2 (by decide)]
      have l3' : ∀ i, i < 512 → ρ1.1 16 i = ρ1.1 3 i := fun i hi => by rw [l3 i hi, e1 3 (by decide)]
      obtain ⟨rr, σ1, ρ2, t1, t2, hcs⟩ := pairT_r h1.1
      have t2 : m_X3_takeSmall 1 ρ1 = some (rr, ρ2) := t2
      rw [bnd_eq u2, if_pos (show (0 : Int32) ≤ nI c from nI_le (a := 0) (by omega) (by omega)), bnd_eq rl, bnd_eq t2]
      unfold m_X2_makeProcess
      rw [bnd_eq u1, bnd_eq (isNumber_t hc), if_neg (show ¬ (1 : Int32) = 0 by decide), bnd_eq t1]
      rcases hcs with ⟨rfl, rfl, rfl⟩ | ⟨r, hr, rfl, hu0, hk0, sx, sm', e2, e3, hB2⟩
      · obtain ⟨ρ3, rf, s2, d1, d2, d3⟩ := fail_t (ρ := ρ2) (fun i hi => by rw [l1 i hi]; exact fr01 h.1.2.1 hi) (fun i hi => by rw [l3 i hi]; exact us01 h.1 hi)
        rw [if_pos rfl, if_neg (by decide), bnd_eq rf]
        refine ⟨-3, sv σ1 2 (σ1.2 2 + 1), sv ρ3 2 (ρ2.2 2 + 1), ?_, rfl, refused h s1 l1 l2 l3 s2 d1 d2 d3⟩
        rfl
      · obtain ⟨kp, k3, k4, kd, ku, kk⟩ := take_keep (s := 1) (Or.inl rfl) hr hu0 hk0 e2 e3
        have hR1 : Rl σ1 ρ2 := h1.l.places (Or.inl rfl) sx sm' hB2 kp k3 k4 kd (fun _ _ _ => id) (fun _ _ _ _ => id)
        have m2 : ∀ k, 4 ≤ k → ρ2.1 k = ρ1.1 k := fun k hk => sm'.2 k (mem3 (by omega) (by omega) (by omega))
        have h60 : ρ2.1 6 c = 0 := by rw [m2 6 (by decide), e1 6 (by decide)]; exact h0
        have hR2 : Rl (wr σ1 15 (nI c) (nI r)) ρ2 := hR1.r15 hc h60
        obtain ⟨σ2, hσ2⟩ : ∃ z, z = wr σ1 15 (nI c) (nI r) := ⟨_, rfl⟩
        rw [← hσ2] at hR2
        have y15 : σ2.1 15 = upd (σ.1 15) c (nI r) := by rw [hσ2, wr_at (by omega), sx.2 15 (by decide)]
        have yo : ∀ j, j ≠ 4 → j ≠ 5 → j ≠ 6 → j ≠ 15 → σ2.1 j = σ.1 j := fun j a b c d => by rw [hσ2, wr_ne d, sx.2 j (mem3 a b c)]
        have ys : σ2.2 = σ.2 := by rw [hσ2, wr_2]; exact sx.1
        have hI0 : fI c r 0 σ ρ1 σ2 ρ2 := by
          refine ⟨hR2, h60, fun j hj => m2 j (by revert j; decide), sm'.1, fun q u hq hne hu => by rw [m2 12 (by decide)], ⟨hr, ku, kk, hu0⟩, fun u hu => by omega, fun u v hu => by omega, fun z hz hzr _ => by rw [e3, upd_ne hzr], fun f hf => ?_, y15, fun j hj => yo j (by revert j; decide) (by revert j; decide) (by revert j; decide) (by revert j; decide), ys⟩
          rw [e2]
          by_cases e : f = r / 4
          · rw [e, upd_eq]
            rcases hk0 with w | w
            · exact Or.inl w.symm
            · exact Or.inr w
          · rw [upd_ne e]; exact Or.inl rfl
        have hF0 : fR c ρ1 ρ2 := ⟨fun j hj => m2 j (by revert j; decide), sm'.1, fun q u hq hne hu => by rw [m2 12 (by decide)]⟩
        have hb7 : ρ2.1 7 a = nI b := by rw [m2 7 (by decide), e1 7 (by decide)]; exact p4
        have y14 : σ2.1 14 a = nI b := by rw [yo 14 (by decide) (by decide) (by decide) (by decide), p3]; exact p4
        have y11 : σ2.1 11 a = 1 := by rw [yo 11 (by decide) (by decide) (by decide) (by decide)]; exact hlX
        obtain ⟨N, hN⟩ : ∃ N, N = (b + 15) / 16 := ⟨_, rfl⟩
        have hNN : (nI b + 15) / 16 = nI N := by
          rw [show nI b + 15 = nI (b + 15) from nI_add b 15, q16, pk_div (by omega) (by decide) (by decide), hN]
        rw [if_neg (nI_m1 (by omega)), if_pos (show (0 : Int32) ≤ nI r from nI_le (a := 0) (by omega) (by omega)), chk_nI hc (by decide), ← hσ2, bnd_eq (isLiveX_t ha y11), if_neg (show ¬ (1 : Int32) = 0 by decide), chk_nI ha (by decide), rd_nI (by omega), y14, chk_nI ha (by decide), rd_nI (by omega), hb7, hNN]
        unfold m_X2_takeTables
        rcases ftab (a := a) h1 hc p5 hN N FU FU 0 σ2 ρ2 ρ2 (by omega) (show N < 1100 by omega) (show N < 1100 by omega) hI0 hF0 (fun _ _ => rfl) with ⟨σT, τT, ρT, c1, c2, hI, hF, hE⟩ | ⟨σT, τT, ρT, c1, c2, hI, hF⟩
        · have c1 : f_X2_takeTables_2 FU (nI c) (nI b) 0 σ2 = some (1, σT) := c1
          have c2 : f_X3_fork_59 FU (nI a) (nI c) (nI r) (nI N) 0 ρ2 = _ := c2
          obtain ⟨o1, o2, -, -⟩ := hI.other h1 hc
          obtain ⟨hR, h6, ho, hs, h12, ⟨q1, q2, q3, q4⟩, hT, hTi, hu, hkd, x15, xo, xs⟩ := hI
          obtain ⟨g1, g2, g3⟩ := hF
          -- all that matters is alike in τT and in ρT
          have same : ∀ j, j ∈ [1, 2, 3, 4, 5, 6, 7, 8, 9, 10, 11, 12, 13] → ρT.1 j = τT.1 j := by
            intro j hj
            by_cases e : j ∈ [1, 2, 3, 12]
            · exact hE j e
            · have e' : j ∈ [4, 5, 6, 7, 8, 9, 10, 11, 13] := by revert j; decide
              have e'' : j ∈ [4, 5, 6, 7, 8, 9, 10, 11, 13, 14, 15, 16] := by revert j; decide
              rw [g1 j e'', ho j e']
          have hRT : Rl σT ρT := by
            obtain ⟨hB, hD, hK, hP, hQ, hT', hG, hS⟩ := hR
            refine ⟨hB.cong (fun _ _ => rfl) (fun k hk => same k (by revert k; decide)), hD.cong (same 2 (by decide)), hK.cong rfl (fun k hk => same k (by revert k; decide)), hP.cong (fun _ _ => rfl) (fun k hk => same k (by revert k; decide)), hQ.cong rfl (fun k hk => same k (by revert k; decide)), hT'.cong rfl (fun k hk => same k (by revert k; decide)), hG.cong (fun _ _ => rfl) (fun k hk => same k (by revert k; decide)), ?_⟩
            unfold rS at hS ⊢
            rw [g2, ← hs]; exact hS
          have hrowT : rR σT ρT := h1.2.2.2.2.2.2.2.1.cong (xo 16 (by decide)) (fun k hk => g1 k (by revert k; decide)) (by rw [xs]) (by rw [g2])
          obtain ⟨m, n1, n2, n3, n4, n5, n6⟩ := id hrowT
          have h6T : ρT.1 6 c = 0 := by rw [same 6 (by decide)]; exact h6
          have hroom : m < 16 := row_room (R := ρT.1 13) (x := c) n1 hc (fun i hi => by
            obtain ⟨-, q, w1, w2, w3⟩ := n4 i hi
            exact ⟨q, w1, fun e => by rw [e, h6T] at w3; exact absurd w3 (by decide), w2⟩) n5
          have h15c : σT.1 15 c = nI r := by rw [x15, upd_eq]
          obtain ⟨σN, ρN, j1, j2, hRel, nX, nM, n6', n10, nMs, nXs, n15, n11, n12, n8⟩ := newp (par := nI a) hRT hrowT hc h6T q1 (by rw [same 3 (by decide)]; exact q2) (by rw [same 2 (by decide)]; exact q3) (fun q hq hn e => by
            rw [same 6 (by decide)] at hn
            have := o1 q hq hn
            have hrc : rcN ρT q = rcN τT q := by unfold rcN; rw [same 10 (by decide)]
            rw [← hrc, e, q4] at this
            exact absurd this (by decide))
          have u15 : upd (σT.1 15) c (nI r) = σT.1 15 := by
            have := upd_self (f := σT.1 15) (i := c)
            rw [h15c] at this
            exact this
          have nX' : ∀ j, j ≠ 11 → j ≠ 12 → j ≠ 16 → σN.1 j = σT.1 j := fun j a b d => by
            by_cases e : j = 15
            · rw [e, n15, u15]
            · exact nX j a b e d
          have eb : ∀ q, bk ρN q = bk τT q := fun q => by unfold bk; rw [nM 7 (by decide) (by decide) (by decide) (by decide), same 7 (by decide)]
          have etb : ∀ q u, tbN ρN q u = tbN τT q u := fun q u => by unfold tbN; rw [nM 12 (by decide) (by decide) (by decide) (by decide), same 12 (by decide)]
          have hba : bk ρN a = b := by
            rw [eb]; unfold bk; rw [ho 7 (by decide), ← m2 7 (by decide), hb7, nI_cl (by omega)]
          have hbc : bk ρN c = 0 := by rw [eb]; exact (hR.2.2.2.1 c hc).2.2.2.2.2.1 (by rw [h6]; decide)
          have hNc := hRel.2.2.2.1 c hc
          have e14 : upd (σN.1 14) c (nI 0) = σN.1 14 := by
            have := upd_self (f := σN.1 14) (i := c)
            rw [hNc.2.2.1, hNc.2.2.2.1, hbc] at this
            exact this
          have e7 : upd (ρN.1 7) c (nI 0) = ρN.1 7 := by
            have := upd_self (f := ρN.1 7) (i := c)
            rw [hNc.2.2.2.1, hbc] at this
            exact this
          have hX0 : sX c 0 σN σT = σN := by
            unfold sX
            rw [← nX' 8 (by decide) (by decide) (by decide), setA_self, ← nX' 9 (by decide) (by decide) (by decide), setA_self, e14, setA_self]
          have hM0 : sM a c 0 ρN = ρN := by
            unfold sM
            rw [cpP_0, e7, setA_self, setA_self]
          have hla : ρN.1 6 a = 1 := by rw [n6', upd_ne hac, g1 6 (by decide), e1 6 (by decide)]; exact hl
          have h14T : σT.1 14 a = nI b := by rw [xo 14 (by decide), p3]; exact p4
          obtain ⟨σS, f1, hRS, fo, fs⟩ := share (σT := σT) (σN := σN) (ρN := ρN) (r := r) (b := b) ha hc hac p5 hr (by rw [n6', upd_eq]) hla (by unfold rcN; rw [n10, upd_eq, nI_cl (by omega)]) hba nX' (by rw [xo 11 (by decide)]; exact hlX) h14T h15c
            (fun u hu' => by
              obtain ⟨w1, w2, w3, w4, -, -⟩ := hT u (by omega)
              rw [etb, nM 12 (by decide) (by decide) (by decide) (by decide), same 12 (by decide), nM 3 (by decide) (by decide) (by decide) (by decide), same 3 (by decide), nM 2 (by decide) (by decide) (by decide) (by decide), same 2 (by decide)]
              exact ⟨w1, w2, w3, w4⟩)
            (fun u v hu' hv e => by rw [etb, etb] at e; exact hTi u v (by omega) (by omega) e)
            (fun q t u hq hne ht hu' e => by
              rw [eb] at ht
              rw [etb, etb] at e
              have w1 := o2 q t hq ht
              have w2 := (hT u (by omega)).2.2.2.2.2
              rw [e, w2] at w1
              exact absurd w1 (by decide))
            b FU 0 σT (by omega) (show b < 1100 by omega) (by rw [hX0, hM0]; exact hRel.l) (fun _ _ _ => rfl) rfl (fun u hu' => by rw [etb]; exact (hT u (by omega)).2.2.2.2.1)
          have hsh : m_X2_sharePages (nI a) (nI c) σT = some (0, wr σS 14 (nI c) (nI b)) := by
            unfold m_X2_sharePages
            rw [chk_nI ha (by decide), rd_nI (by omega), h14T]
            exact f1
          rw [bnd_eq c1, if_neg (show ¬ (1 : Int32) = 0 by decide), bnd_eq hsh, chk_nI hc (by decide), chk_nI hc (by decide)]
          obtain ⟨V, hV⟩ : ∃ z, z = wr (wr (wr σS 14 (nI c) (nI b)) 11 (nI c) 1) 12 (nI c) (nI a) := ⟨_, rfl⟩
          rw [← hV]
          have vs : V.2 = σT.2 := by rw [hV, wr_2, wr_2, wr_2]; exact fs
          have v12 : V.1 12 = upd (σT.1 12) c (nI a) := by rw [hV, wr_at (by omega), wr_ne (by decide), wr_ne (by decide), fo 12 (by decide) (by decide)]
          have v11 : V.1 11 = upd (σT.1 11) c 1 := by rw [hV, wr_ne (by decide), wr_at (by omega), wr_ne (by decide), fo 11 (by decide) (by decide)]
          have v14 : V.1 14 = upd (σT.1 14) c (nI b) := by rw [hV, wr_ne (by decide), wr_ne (by decide), wr_at (by omega), fo 14 (by decide) (by decide)]
          have vo : ∀ j, j ≠ 11 → j ≠ 12 → j ≠ 14 → V.1 j = σS.1 j := fun j a b d => by rw [hV, wr_ne b, wr_ne a, wr_ne d]
          have hj := joinRow_t (σ := V) (x := nI c) hroom (by rw [vs]; exact n2)
          have hjN := joinRow_t (σ := wr (wr (wr σT 15 (nI c) (nI r)) 11 (nI c) 1) 12 (nI c) (nI a)) (x := nI c) hroom (by rw [wr_2, wr_2, wr_2]; exact n2)
          rw [j1] at hjN
          have hσN : σN = sv (setA (wr (wr (wr σT 15 (nI c) (nI r)) 11 (nI c) 1) 12 (nI c) (nI a)) 16 (upd ((wr (wr (wr σT 15 (nI c) (nI r)) 11 (nI c) 1) 12 (nI c) (nI a)).1 16) m (nI c))) 0 (nI (m + 1)) := congrArg Prod.snd (Option.some.inj hjN)
          have n16 : σN.1 16 = upd (σT.1 16) m (nI c) := by rw [hσN, sv_1, setA_at, wr_ne (by decide), wr_ne (by decide), wr_ne (by decide)]
          have n0 : σN.2 0 = nI (m + 1) := by rw [hσN, sv_at]
          have hfin : sv (setA V 16 (upd (V.1 16) m (nI c))) 0 (nI (m + 1)) = sX c b σN σS := by
            refine Prod.ext (funext fun j => ?_) (funext fun j => ?_)
            · rw [sv_1]
              unfold sX
              by_cases e16 : j = 16
              · rw [e16, setA_at, setA_ne (by decide), setA_ne (by decide), setA_ne (by decide), n16, vo 16 (by decide) (by decide) (by decide), fo 16 (by decide) (by decide)]
              rw [setA_ne e16]
              by_cases e14' : j = 14
              · rw [e14', setA_at, v14, nX' 14 (by decide) (by decide) (by decide)]
              rw [setA_ne e14']
              by_cases e9 : j = 9
              · rw [e9, setA_at, vo 9 (by decide) (by decide) (by decide)]
              rw [setA_ne e9]
              by_cases e8 : j = 8
              · rw [e8, setA_at, vo 8 (by decide) (by decide) (by decide)]
              rw [setA_ne e8]
              by_cases e12 : j = 12
              · rw [e12, v12, n12]
              by_cases e11 : j = 11
              · rw [e11, v11, n11]
              rw [vo j e11 e12 e14', fo j e8 e9, nX' j e11 e12 e16]
            · unfold sX
              rw [setA_2, setA_2, setA_2]
              by_cases e : j = 0
              · rw [e, sv_at, n0]
              · rw [sv_ne e, setA_2, vs, nXs j e]
          rw [hfin] at hj
          rw [bnd_eq hj, c2, bnd_eq j2, chk_nI ha (by decide), chk_nI hc (by decide), rd_nI (by omega), show ρN.1 7 a = nI b by rw [(hRel.2.2.2.1 a ha).2.2.2.1, hba], wr_isA (by omega)]
          have hcp := fcopy (ρ := setA ρN 7 (upd (ρN.1 7) c (nI b))) (a := a) (c := c) (b := b) (x3 := nI r) (x4 := nI N) ha hc hac p5 (by rw [setA_at, upd_eq]) b FU 0 (by omega) (show b < 1100 by omega)
          rw [cpP_0, setA_self, setA_ne (by decide)] at hcp
          refine ⟨nI c, sX c b σN σS, sM a c b ρN, rfl, hcp, hRS.rel ?_⟩
          refine hRel.2.2.2.2.2.2.2.1.cong ?_ (fun k hk => ?_) ?_ ?_
          · unfold sX; rw [setA_ne (by decide), setA_ne (by decide), setA_ne (by decide)]
          · unfold sM; rw [setA_ne (by revert k; decide), setA_ne (by revert k; decide)]
          · unfold sX; rw [setA_2, setA_2, setA_2]
          · unfold sM; rw [setA_2, setA_2]
        · have c1 : f_X2_takeTables_2 FU (nI c) (nI b) 0 σ2 = some (0, σT) := c1
          have c2 : f_X3_fork_59 FU (nI a) (nI c) (nI r) (nI N) 0 ρ2 = _ := c2
          obtain ⟨o1, o2, hbc, o4⟩ := hI.other h1 hc
          obtain ⟨hR, h6, ho, hs, h12, ⟨q1, q2, q3, q4⟩, hT, hTi, hu, hkd, x15, xo, xs⟩ := hI
          obtain ⟨g1, g2, g3⟩ := hF
          obtain ⟨σ3, τ3, v1, -, sx3, sm3, e33, hB3, hcs3⟩ := pairG_r hR.1 q1 q2 q3
          obtain ⟨kp3, kk3, kk4, kd4⟩ := give_keep (s := 1) (Or.inl rfl) q1 q2 q3 e33 hcs3
          have hR3 : Rl σ3 τ3 := hR.places (Or.inl rfl) sx3 sm3 hB3 kp3 kk3 kk4 kd4 (fun q hq hn e => by
              have := o1 q hq hn
              rw [e, q4] at this
              exact absurd this (by decide)) (fun q u hq hu' e => by
              have := o2 q u hq hu'
              rw [e, q4] at this
              exact absurd this (by decide))
          have mo : ∀ j, 4 ≤ j → τ3.1 j = τT.1 j := fun j hj => sm3.2 j (mem3 (by omega) (by omega) (by omega))
          have mk : ∀ j, j ∈ [4, 5, 6, 7, 8, 9, 10, 11, 13] → τ3.1 j = ρ1.1 j := fun j hj => by rw [mo j (by revert j; decide)]; exact ho j hj
          have g14 : ∀ j ∈ [14, 15, 16], ρT.1 j = ρ1.1 j := fun j hj => g1 j (by revert j; decide)
          obtain ⟨ρ4, rf, s4, f1, f2, f3⟩ := fail_t (ρ := ρT) (fun i hi => by rw [g14 14 (by decide), l1 i hi]; exact fr01 h.1.2.1 hi) (fun i hi => by rw [g14 16 (by decide), l3 i hi]; exact us01 h.1 hi)
          have hkd3 := kdGive h1.1 (Or.inl rfl) q1 q3 q4 hkd o4 hcs3
          have hb0 : bk ρ1 c = 0 := by rw [← hbc]; unfold bk; rw [ho 7 (by decide)]
          have bl : ∀ q, q < 16 → bk ρ1 q ≤ 256 := fun q hq => (h1.2.2.2.1 q hq).2.2.2.2.1
          rw [bnd_eq c1, if_pos rfl, bnd_eq v1, c2, bnd_eq rf]
          refine ⟨-3, sv σ3 2 (σ3.2 2 + 1), sv ρ4 2 (ρT.2 2 + 1), rfl, rfl, undone (τ3 := τ3) (ρ0 := ρ1) h1 hR3 ?_ ?_ ?_ ?_ (mk 5 (by decide)) (mk 13 (by decide)) ?_ ?_ ?_ ?_ ?_ (fun i hi => by rw [g14 14 (by decide)]; exact l1' i hi) (fun i hi => by rw [g14 15 (by decide)]; exact l2' i hi) (fun i hi => by rw [g14 16 (by decide)]; exact l3' i hi) s4 f1 f2 f3 (fun j hj => g1 j (by revert j; decide)) ?_ ?_ g2⟩
          · rw [sx3.2 16 (by decide)]; exact xo 16 (by decide)
          · rw [sx3.1]; exact xs
          · intro z hz
            rw [e33]
            by_cases e : z = r
            · rw [e, upd_eq, q4]
            · rw [upd_ne e]; exact hu z hz e (fun u hu' => by omega)
          · intro f hf
            rcases hkd3 f hf with w | w
            · exact Or.inl w
            · exact Or.inr (Or.inl w)
          · rw [sm3.1]; exact hs
          · intro q _
            exact ⟨by rw [mk 6 (by decide)], by rw [mk 7 (by decide)], by rw [mk 8 (by decide)], by rw [mk 9 (by decide)], by rw [mk 10 (by decide)]⟩
          · intro q t hq ht
            have := bl q hq
            rw [mo 12 (by decide)]
            exact h12 q t hq (fun e => by rw [e, hb0] at ht; omega) (by omega)
          · intro q j _ _
            rw [mk 11 (by decide)]
          · intro f w _ _ _
            rw [mk 4 (by decide)]
          · intro q t hq ht
            have := bl q hq
            exact g3 q t hq (fun e => by rw [e, hb0] at ht; omega) (by omega)
          · intro q j _ _
            rw [g1 11 (by decide)]
    · rw [bnd_eq u2, if_neg (by decide)]
      unfold m_X2_makeProcess
      rw [bnd_eq u1, bnd_eq isNumber_m, if_pos rfl]
      exact ⟨-4, σ, ρ, rfl, rfl, h⟩
  · rw [bnd_eq r1, bnd_eq r2, if_pos rfl, if_pos rfl]
    exact ⟨-2, σ, ρ, rfl, rfl, h⟩
