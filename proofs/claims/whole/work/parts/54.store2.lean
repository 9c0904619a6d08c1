/-! PURE: store, both sides -/
theorem mem3 {a b c k : Nat} (h1 : k ≠ a) (h2 : k ≠ b) (h3 : k ≠ c) : k ∉ [a, b, c] := by
  intro q; rcases List.mem_cons.mp q with q | q; exact h1 q; rcases List.mem_cons.mp q with q | q; exact h2 q; rcases List.mem_cons.mp q with q | q; exact h3 q; cases q
theorem mem2 {a b k : Nat} (h1 : k ≠ a) (h2 : k ≠ b) : k ∉ [a, b] := by
  intro q; rcases List.mem_cons.mp q with q | q; exact h1 q; rcases List.mem_cons.mp q with q | q; exact h2 q; cases q
/-- a frame for a page is taken, on both sides -/
theorem pairF {σ ρ : KS} (hB : cB σ (zs ρ)) (hC : canR (ρ.1 1) (zs ρ)) : ∃ (r : Int32) (σ' ρ' : KS), m_X2_takePageFrame σ = some (r, σ') ∧ m_X3_takeFrame 3 ρ = some (r, ρ') ∧
    ((r = -1 ∧ σ' = σ ∧ ρ' = ρ) ∨ ∃ f, f < 128 ∧ r = nI f ∧ ρ.1 2 f = 0 ∧ (∀ j, j ≠ 4 → j ≠ 5 → j ≠ 9 → σ'.1 j = σ.1 j) ∧ σ'.1 9 = upd (σ.1 9) f 1 ∧ σ'.2 = σ.2 ∧ sam [1, 2] ρ ρ' ∧ ρ'.1 2 = upd (ρ.1 2) f (nI 3) ∧ cB σ' (zs ρ') ∧ canR (ρ'.1 1) (zs ρ')) := by
  unfold m_X2_takePageFrame
  rcases takeFrame_M (ρ := ρ) (s := 3) (by decide) (by decide) hC with ⟨k, f, ρ1, hl, r2, s2, e2, c2, ez⟩ | ⟨hn, r2⟩
  · rcases take_X hB (o := 0) (by decide) with ⟨k', f', σ1, hl', r1, s1, c1⟩ | ⟨hn, -⟩
    · obtain ⟨-, e⟩ := hl.uniq hl'
      subst e
      have hf : f' < 128 := hl.2.2.1
      refine ⟨nI f', wr σ1 9 (nI f') 1, ρ1, ?_, r2, Or.inr ⟨f', hf, rfl, (hl.2.2.2.2.1.1 f' sb.rfl').2, fun j a b c => ?_, ?_, ?_, s2, e2, ?_, c2⟩⟩
      · rw [bnd_eq (show m_X0_takeBlock 0 σ = _ from r1), bnd_eq (isFrame_t hf), if_neg (by decide), chk_nI hf (by decide)]
      · rw [wr_ne c, s1.2 j (mem2 a b)]
      · rw [wr_at (by omega), s1.2 9 (by decide)]
      · rw [wr_2]; exact s1.1
      · rw [ez]; exact c1.same (wr_ne (by decide)) (wr_ne (by decide))
    · exact absurd hn (fun q => hl.not q)
  · rcases take_X hB (o := 0) (by decide) with ⟨k', f', σ1, hl', -⟩ | ⟨-, r1⟩
    · exact absurd hn (fun q => hl'.not q)
    · refine ⟨-1, σ, ρ, ?_, r2, Or.inl ⟨rfl, rfl, rfl⟩⟩
      rw [bnd_eq (show m_X0_takeBlock 0 σ = _ from r1), bnd_eq isFrame_m, if_pos rfl]
theorem Rl.word {σ ρ : KS} (h : Rl σ ρ) {p n : Nat} (hp : p < 16) (hl : ρ.1 6 p = 1) (hn : n < 2 ^ 31) (hk : n / 64 < bk ρ p) : m_X2_wordIndex (nI p) (nI n) σ = some (nI (64 * pgN ρ p (n / 64) + n % 64), σ) := by
  obtain ⟨g1, -, -⟩ := h.2.2.2.2.2.2.1.1 p (n / 64) hp hk
  unfold m_X2_wordIndex
  rw [bnd_eq pageOf_t, sh6_t hn, bnd_eq (h.frame hp hl hk), a63 hn, q64, pk_mul, nI_add, Nat.mul_comm]
theorem sim_store : ∀ (a b c : Int32) (σ ρ : KS), Rel σ ρ → ∃ (r : Int32) (σ' ρ' : KS), m_X2_store a b c σ = some (r, σ') ∧ m_X3_store a b c ρ = some (r, ρ') ∧ Rel σ' ρ' := by
  intro a b v σ ρ h
  unfold m_X2_store m_X3_store
  rcases live_cases h.2.2.2.1 a with ⟨p0, hp0, e0, hl0, -, r1, r2⟩ | ⟨r1, r2⟩
  · rw [bnd_eq r1, if_neg (by decide), bnd_eq r2, if_neg (by decide), bnd_eq pageOf_t]
    rcases addr h a b with ⟨p, n, hp, rfl, hl, rfl, hn, hk, a1, a2⟩ | ⟨a1, a2⟩
    · rw [bnd_eq a1, if_neg (by decide), bnd_eq pageOf_t, bnd_eq a2, if_neg (by decide)]
      have hR := h.l
      obtain ⟨hB, hD, hK, hP, hQ, hT, hG, hS⟩ := id hR
      have b5 := (hP p hp).2.2.2.2.1
      obtain ⟨f, hf⟩ : ∃ f, f = pgN ρ p (n / 64) := ⟨_, rfl⟩
      obtain ⟨g1, g2, g3⟩ := hG.1 p (n / 64) hp hk
      rw [← hf] at g1 g2 g3
      have upos : 0 < usr ρ f := by rw [hf]; exact usr_pos hp hk
      have ule := usr_le h.u f
      have u9 := (hG.2.1 f g1).1
      have k3 : ρ.1 2 f = nI 3 := (hG.2.1 f g1).2.mpr upos
      have hfr := hR.frame hp hl hk
      rw [← hf] at hfr
      have hdiv : nI n / 64 = nI (n / 64) := by rw [q64, pk_div hn (by decide) (by decide)]
      have hmod : nI n - nI n / 64 * 64 = nI (n % 64) := by rw [q64, pk_rem hn (by decide) (by decide)]
      rw [hmod, hdiv, show (256 : Int32) * nI p + nI (n / 64) = nI (256 * p + n / 64) by rw [q256, pk_mul, nI_add], chk_nI (by omega) (by decide), rd_nI (i := 256 * p + n / 64) (by omega), g2, bnd_eq (users_t h.u g1), sh6_t hn, show (64 : Int32) * nI f + nI (n % 64) = nI (64 * f + n % 64) by rw [q64, pk_mul, nI_add]]
      by_cases u1 : usr ρ f = 1
      · have ho : m_X2_ownPage (nI p) (nI (n / 64)) σ = some (1, σ) := by
          unfold m_X2_ownPage
          rw [bnd_eq hfr, bnd_eq (isFrame_t g1), if_neg (by decide), chk_nI g1 (by decide), rd_nI (by omega), u9, u1, if_neg (by decide)]
        have hw := hR.word hp hl hn hk
        rw [← hf] at hw
        rw [bnd_eq ho, if_neg (by decide), bnd_eq hw, bnd_eq (setWord_t (by omega)), u1, if_pos (by decide), chk_nI (by omega) (by decide)]
        refine ⟨0, _, _, rfl, rfl, (wset hR g1 (by omega) k3).rel ?_⟩
        exact h.2.2.2.2.2.2.2.1.cong (wr_ne (by decide)) (fun k hk => wr_ne (by revert k; decide)) rfl rfl
      · have u2 : 2 ≤ usr ρ f := by omega
        obtain ⟨ρ1, rl, s1, l1, l2, l3⟩ := layAside_t (ρ := ρ) (fun i hi => fr01 h.1.2.1 hi) (fun i hi => us01 h.1 hi)
        have e1 : ∀ k, k < 14 → ρ1.1 k = ρ.1 k := fun k hk => s1.2 k (mem3 (by omega) (by omega) (by omega))
        have ez1 : zs ρ1 = zs ρ := by unfold zs; rw [e1 2 (by decide)]
        rw [if_neg (show ¬ nI (usr ρ f) ≤ 1 from nI_ge (a := 1) (by omega) (by omega)), bnd_eq rl]
        obtain ⟨r, σ2, ρ2, t1, t2, hc⟩ := pairF (σ := σ) (ρ := ρ1) (by rw [ez1]; exact hB.1) (by rw [ez1, e1 1 (by decide)]; exact hB.2.1)
        rw [bnd_eq t2]
        rcases hc with ⟨rfl, rfl, rfl⟩ | ⟨f2, f21, rfl, hk0, xo2, x92, xs2, s2, e22, cb2, cr2⟩
        · obtain ⟨ρ3, rf, s3, d1, d2, d3⟩ := fail_t (ρ := ρ2) (fun i hi => by rw [l1 i hi]; exact fr01 h.1.2.1 hi) (fun i hi => by rw [l3 i hi]; exact us01 h.1 hi)
          have ho : m_X2_ownPage (nI p) (nI (n / 64)) σ2 = some (0, σ2) := by
            unfold m_X2_ownPage
            rw [bnd_eq hfr, bnd_eq (isFrame_t g1), if_neg (by decide), chk_nI g1 (by decide), rd_nI (by omega), u9, if_pos (show (2 : Int32) ≤ nI (usr ρ f) from nI_le (a := 2) u2 (by omega)), bnd_eq t1, if_pos rfl]
          rw [bnd_eq ho, if_pos rfl, if_neg (by decide), bnd_eq rf]
          refine ⟨-3, sv σ2 2 (σ2.2 2 + 1), sv ρ3 2 (ρ2.2 2 + 1), rfl, rfl, refused h s1 l1 l2 l3 s3 d1 d2 d3⟩
        · have hk0' : ρ.1 2 f2 = 0 := by rw [← e1 2 (by decide)]; exact hk0
          have hff : f ≠ f2 := fun e => by rw [e, hk0'] at k3; exact absurd k3 (by decide)
          obtain ⟨q1, -, q3, -, q5⟩ := hQ.1 p hp (by rw [hl]; decide)
          obtain ⟨tt1, -, -, tt4, tt5⟩ := hT.1 p (n / 64 / 16) hp (by omega)
          obtain ⟨tab, htab⟩ : ∃ t, t = tbN ρ p (n / 64 / 16) := ⟨_, rfl⟩
          rw [← htab] at tt1 tt4 tt5
          have rcf : rcN ρ p / 4 ≠ f2 := fun e => by rw [e, hk0'] at q5; exact absurd q5 (by decide)
          have tbf : tab / 4 ≠ f2 := fun e => by rw [e, hk0'] at tt4; exact absurd tt4 (by decide)
          -- the class: copy, drop, put
          obtain ⟨σ3, hσ3⟩ : ∃ z, z = setA σ2 8 (cpW (σ2.1 8) f f2 64) := ⟨_, rfl⟩
          have y8 : σ3.1 8 = cpW (σ.1 8) f f2 64 := by rw [hσ3, setA_at, xo2 8 (by decide) (by decide) (by decide)]
          have yo : ∀ j, j ≠ 8 → σ3.1 j = σ2.1 j := fun j hj => by rw [hσ3, setA_ne hj]
          obtain ⟨σ4, hσ4⟩ : ∃ z, z = wr σ3 9 (nI f) (rd σ3 9 (nI f) - 1) := ⟨_, rfl⟩
          have z9 : σ4.1 9 = upd (upd (σ.1 9) f2 1) f (nI (usr ρ f - 1)) := by
            rw [hσ4, wr_at (by omega), rd_nI (by omega), yo 9 (by decide), x92, upd_ne hff, u9, show nI (usr ρ f) - 1 = nI (usr ρ f - 1) from pk_sub (a := usr ρ f) (b := 1) (by omega)]
          have zo : ∀ j, j ≠ 9 → σ4.1 j = σ3.1 j := fun j hj => by rw [hσ4, wr_ne hj]
          have hdp : m_X2_dropPageFrame (nI f) σ3 = some (0, σ4) := by
            unfold m_X2_dropPageFrame
            rw [bnd_eq (isFrame_t g1), if_neg (by decide), chk_nI g1 (by decide), chk_nI g1 (by decide), chk_nI g1 (by decide), ← hσ4, rd_nI (by omega), z9, upd_eq, if_neg (fun w => by have := (nI_01 (by omega)).mp w; omega)]
          have w15 : σ4.1 15 p = nI (rcN ρ p) := by rw [zo 15 (by decide), yo 15 (by decide), xo2 15 (by decide) (by decide) (by decide)]; exact q3
          have w8 : σ4.1 8 (16 * rcN ρ p + n / 64 / 16) = nI tab := by
            rw [zo 8 (by decide), y8]
            unfold cpW
            rw [if_neg (by omega)]
            exact tt5
          have hpi := pageIndex_t (k := n / 64) hp (by omega) w15 q1 w8
          obtain ⟨σ5, hσ5⟩ : ∃ z, z = sv (wr σ4 8 (nI (16 * tab + n / 64 % 16)) (nI f2)) 1 (σ4.2 1 + 1) := ⟨_, rfl⟩
          have ho : m_X2_ownPage (nI p) (nI (n / 64)) σ = some (1, σ5) := by
            unfold m_X2_ownPage
            rw [bnd_eq hfr, bnd_eq (isFrame_t g1), if_neg (by decide), chk_nI g1 (by decide), rd_nI (by omega), u9, if_pos (show (2 : Int32) ≤ nI (usr ρ f) from nI_le (a := 2) u2 (by omega)), bnd_eq t1, if_neg (nI_m1 (by omega))]
            have := own_l (σ := σ2) (x1 := nI p) (x2 := nI (n / 64)) g1 f21 hff FU 0 (by omega) (by decide)
            rw [cpW_0, setA_self, ← hσ3, bnd_eq hdp, bnd_eq hpi, bnd_eq (setWord_t (by omega))] at this
            rw [show f_X2_ownPage_43 FU (nI p) (nI (n / 64)) (nI f) (nI f2) 0 σ2 = _ from this, hσ5]
            rfl
          have v8 : σ5.1 8 = upd (cpW (σ.1 8) f f2 64) (16 * tab + n / 64 % 16) (nI f2) := by rw [hσ5, sv_1, wr_at (by omega), zo 8 (by decide), y8]
          have vo : ∀ j, j ≠ 8 → σ5.1 j = σ4.1 j := fun j hj => by rw [hσ5, sv_1, wr_ne hj]
          -- the reference
          obtain ⟨ρ3, hρ3⟩ : ∃ z, z = wr (sv (setA ρ2 4 (cpW (ρ2.1 4) f f2 64)) 1 (ρ2.2 1 + 1)) 11 (nI (256 * p + n / 64)) (nI f2) := ⟨_, rfl⟩
          have hsm := storeM_l (ρ := ρ2) (x1 := nI p) (x3 := v) (a := n) (kk := 256 * p + n / 64) hn (by omega) g1 f21 hff FU 0 (by omega) (by decide)
          rw [cpW_0, setA_self, ← hρ3] at hsm
          have mo2 : ∀ j, j ≠ 1 → j ≠ 2 → j < 14 → ρ2.1 j = ρ.1 j := fun j a b c => by rw [s2.2 j (mem2 a b), e1 j c]
          have n4 : ρ3.1 4 = cpW (ρ.1 4) f f2 64 := by rw [hρ3, wr_ne (by decide), sv_1, setA_at, mo2 4 (by decide) (by decide) (by decide)]
          have n11 : ρ3.1 11 = upd (ρ.1 11) (256 * p + n / 64) (nI f2) := by rw [hρ3, wr_at (by omega), sv_1, setA_ne (by decide), mo2 11 (by decide) (by decide) (by decide)]
          have no : ∀ j, j ≠ 4 → j ≠ 11 → ρ3.1 j = ρ2.1 j := fun j a b => by rw [hρ3, wr_ne b, sv_1, setA_ne a]
          have nz : zs ρ3 = zs ρ2 := by unfold zs; rw [no 2 (by decide) (by decide)]
          have ms : ∀ j, j ≠ 1 → ρ3.2 j = ρ.2 j := fun j hj => by rw [hρ3, wr_2, sv_ne hj, setA_2, s2.1, s1.1]
          have ms1 : ρ3.2 1 = ρ.2 1 + 1 := by rw [hρ3, wr_2, sv_at, s2.1, s1.1]
          have xsc : σ4.2 = σ.2 := by rw [hσ4, wr_2, hσ3, setA_2]; exact xs2
          have xs : ∀ j, j ≠ 1 → σ5.2 j = σ.2 j := fun j hj => by rw [hσ5, sv_ne hj, wr_2, xsc]
          have xs1 : σ5.2 1 = σ.2 1 + 1 := by rw [hσ5, sv_at, xsc]
          -- agreement of the state before store's own word: swap ρ1 for ρ where nothing speaks
          have hR5 : Rl σ5 ρ3 := by
            have hm2 : ρ2.1 2 = upd (ρ.1 2) f2 (nI 3) := by rw [e22, e1 2 (by decide)]
            have base := pgset (σ := σ) (ρ := ρ) (σ' := σ5) (ρ' := (fun j => if j < 14 then ρ3.1 j else ρ.1 j, ρ3.2)) hR hp hk hf u2 f21 hk0'
              (by rw [vo 9 (by decide)]; exact z9)
              (fun j a b c d => by rw [vo j c, zo j d, yo j c, xo2 j a b d])
              (fun z hz hz2 => by rw [v8, upd_ne (by rw [← htab] at hz2; exact hz2)]; unfold cpW; rw [if_neg (by omega)])
              (by rw [← htab, v8, upd_eq])
              (fun w hw => by
                show σ5.1 8 (64 * f2 + w) = ρ3.1 4 (64 * f2 + w)
                rw [v8, upd_ne (by omega), n4]
                unfold cpW
                rw [if_pos (by omega), if_pos (by omega), show 64 * f2 + w - 64 * f2 = w by omega]
                exact hG.2.2 f w g1 hw k3)
              (by show ρ3.1 11 = _; exact n11)
              (fun z hz => by
                show ρ3.1 4 z = ρ.1 4 z
                rw [n4]; unfold cpW; rw [if_neg (by omega)])
              (fun j a b c d => by
                show (if j < 14 then ρ3.1 j else ρ.1 j) = ρ.1 j
                by_cases q : j < 14
                · rw [if_pos q, no j c d, mo2 j a b q]
                · rw [if_neg q])
              (fun j hj => by
                show ρ3.1 2 j = _
                rw [no 2 (by decide) (by decide), hm2]
                by_cases ej : j = f2
                · rw [ej, upd_eq, if_pos rfl]
                · rw [upd_ne ej, if_neg ej])
              (by
                have : zs (fun j => if j < 14 then ρ3.1 j else ρ.1 j, ρ3.2) = zs ρ3 := rfl
                rw [this, nz]
                exact cb2.same (by rw [vo 4 (by decide), zo 4 (by decide), yo 4 (by decide)]) (by rw [vo 5 (by decide), zo 5 (by decide), yo 5 (by decide)]))
              (by
                have : zs (fun j => if j < 14 then ρ3.1 j else ρ.1 j, ρ3.2) = zs ρ3 := rfl
                rw [this, nz]
                show canR (ρ3.1 1) _
                rw [no 1 (by decide) (by decide)]
                exact cr2)
              (by
                refine ⟨?_, ?_, ?_⟩
                · show σ5.2 1 = ρ3.2 1
                  rw [xs1, ms1, hS.1]
                · show σ5.2 2 = ρ3.2 2
                  rw [xs 2 (by decide), ms 2 (by decide)]; exact hS.2.1
                · show σ5.2 3 = ρ3.2 3
                  rw [xs 3 (by decide), ms 3 (by decide)]; exact hS.2.2)
            obtain ⟨c1, c2, c3, c4, c5, c6, c7, c8⟩ := base
            have e14 : ∀ k, k < 14 → ρ3.1 k = (fun j => if j < 14 then ρ3.1 j else ρ.1 j, ρ3.2).1 k := fun k hk => by show _ = (if k < 14 then ρ3.1 k else ρ.1 k); rw [if_pos hk]
            exact ⟨c1.cong (fun _ _ => rfl) (fun k hk => e14 k (by revert k; decide)), c2.cong (e14 2 (by decide)), c3.cong rfl (fun k hk => e14 k (by revert k; decide)), c4.cong (fun _ _ => rfl) (fun k hk => e14 k (by revert k; decide)), c5.cong rfl (fun k hk => e14 k (by revert k; decide)), c6.cong rfl (fun k hk => e14 k (by revert k; decide)), c7.cong (fun _ _ => rfl) (fun k hk => e14 k (by revert k; decide)), c8⟩
          have ebk : bk ρ3 p = bk ρ p := by unfold bk; rw [no 7 (by decide) (by decide), mo2 7 (by decide) (by decide) (by decide)]
          have hl3 : ρ3.1 6 p = 1 := by rw [no 6 (by decide) (by decide), mo2 6 (by decide) (by decide) (by decide)]; exact hl
          have hpg : pgN ρ3 p (n / 64) = f2 := by unfold pgN; rw [n11, upd_eq, nI_cl (by omega)]
          have hw := hR5.word hp hl3 hn (by rw [ebk]; exact hk)
          rw [hpg] at hw
          have k32 : ρ3.1 2 f2 = nI 3 := by rw [no 2 (by decide) (by decide), e22, upd_eq]
          rw [bnd_eq ho, if_neg (by decide), bnd_eq hw, bnd_eq (setWord_t (by omega)), if_pos (show (0 : Int32) ≤ nI f2 from nI_le (a := 0) (by omega) (by omega)), show f_X3_store_78 FU (nI p) (nI n) v (nI (256 * p + n / 64)) (nI f) (nI f2) 0 ρ2 = _ from hsm]
          refine ⟨0, _, _, rfl, rfl, (wset hR5 f21 (by omega) k32).rel ?_⟩
          refine h.2.2.2.2.2.2.2.1.cong ?_ (fun k hk => ?_) ?_ ?_
          · rw [wr_ne (by decide), vo 16 (by decide), zo 16 (by decide), yo 16 (by decide), xo2 16 (by decide) (by decide) (by decide)]
          · rw [wr_ne (by revert k; decide), no k (by revert k; decide) (by revert k; decide), mo2 k (by revert k; decide) (by revert k; decide) (by revert k; decide)]
          · rw [wr_2]; exact xs 0 (by decide)
          · rw [wr_2]; exact ms 0 (by decide)
    · rw [bnd_eq a1, if_pos rfl, bnd_eq a2, if_pos rfl]; exact ⟨-5, σ, ρ, rfl, rfl, h⟩
  · rw [bnd_eq r1, if_pos rfl, bnd_eq r2, if_pos rfl]; exact ⟨-2, σ, ρ, rfl, rfl, h⟩
