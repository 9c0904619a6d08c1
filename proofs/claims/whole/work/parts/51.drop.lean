/-! PURE: the last page goes, on both sides -/
theorem pairDrop {σ ρ : KS} {p k : Nat} (h : Rl σ ρ) (hp : p < 16) (hl : ρ.1 6 p = 1) (hb : bk ρ p = k + 1) :
    ∃ σ' ρ', (∀ n x2, ¬ nI k < x2 → f_X2_shrinkTo_9 (n + 1) (nI p) x2 (nI k) σ = f_X2_shrinkTo_9 n (nI p) x2 (nI k - 1) σ') ∧ m_X3_dropPage (nI p) ρ = some (0, ρ') ∧ Rl σ' ρ' ∧ bk ρ' p = k ∧
      (∀ j, j ≠ 4 → j ≠ 5 → j ≠ 7 → j ≠ 9 → j ≠ 14 → σ'.1 j = σ.1 j) ∧ (∀ j, j ≠ 1 → j ≠ 2 → j ≠ 3 → j ≠ 7 → ρ'.1 j = ρ.1 j) ∧ ρ'.1 7 = upd (ρ.1 7) p (nI k) ∧ σ'.2 = σ.2 ∧ ρ'.2 = ρ.2 ∧
      (∀ j, j < 128 → ρ'.1 2 j = ρ.1 2 j ∨ ((ρ.1 2 j = nI 3 ∨ ρ.1 2 j = nI 2) ∧ ρ'.1 2 j = 0)) ∧ (∀ r, (k % 16 = 0 → tbN ρ p (k / 16) ≠ r) → ρ'.1 3 r = ρ.1 3 r) ∧ (k % 16 = 0 → ρ'.1 3 (tbN ρ p (k / 16)) = 0) := by
  obtain ⟨hB, hD, hK, hP, hQ, hT, hG, hS⟩ := id h
  obtain ⟨hcB, hcR, -, -, -⟩ := id hB
  have b5 := (hP p hp).2.2.2.2.1
  have hk : k < bk ρ p := by omega
  obtain ⟨f, hf⟩ : ∃ f, f = pgN ρ p k := ⟨_, rfl⟩
  obtain ⟨g1, g2, -⟩ := hG.1 p k hp hk
  rw [← hf] at g1 g2
  have upos : 0 < usr ρ f := by rw [hf]; exact usr_pos hp hk
  have ule := usr_le h.u f
  have u9 := (hG.2.1 f g1).1
  have k3 : ρ.1 2 f = nI 3 := (hG.2.1 f g1).2.mpr upos
  have hfr := h.frame hp hl hk
  rw [← hf] at hfr
  have h7 : ρ.1 7 p = nI (k + 1) := by rw [(hP p hp).2.2.2.1, hb]
  have hmod : nI k - nI k / 16 * 16 = nI (k % 16) := by rw [q16, pk_rem (by omega) (by decide) (by decide)]
  have hdiv : nI k / 16 = nI (k / 16) := by rw [q16, pk_div (by omega) (by decide) (by decide)]
  obtain ⟨tt1, tt2, tt3, tt4, tt5⟩ := hT.1 p (k / 16) hp (by omega)
  obtain ⟨qq1, qq2, qq3, qq4, qq5⟩ := hQ.1 p hp (by rw [hl]; decide)
  -- the frame
  have hframe : ∃ σ2 ρ2, m_X2_dropPageFrame (nI f) σ = some (0, σ2) ∧ (if nI (usr ρ f) = 1 then m_X3_giveBlock (nI f) 0 ρ = some (0, ρ2) else ρ2 = ρ) ∧ (∀ j, j ≠ 4 → j ≠ 5 → j ≠ 9 → σ2.1 j = σ.1 j) ∧ σ2.1 9 = upd (σ.1 9) f (nI (usr ρ f - 1)) ∧ σ2.2 = σ.2 ∧ (∀ j, j ≠ 1 → j ≠ 2 → ρ2.1 j = ρ.1 j) ∧ ρ2.2 = ρ.2 ∧ (∀ j, j < 128 → ρ2.1 2 j = if j = f ∧ usr ρ f = 1 then 0 else ρ.1 2 j) ∧ cB σ2 (zs ρ2) ∧ canR (ρ2.1 1) (zs ρ2) := by
    obtain ⟨σ1, hσ1⟩ : ∃ z, z = wr σ 9 (nI f) (rd σ 9 (nI f) - 1) := ⟨_, rfl⟩
    have e9 : σ1.1 9 = upd (σ.1 9) f (nI (usr ρ f - 1)) := by
      rw [hσ1, wr_at (by omega), rd_nI (by omega), u9, show nI (usr ρ f) - 1 = nI (usr ρ f - 1) from pk_sub (a := usr ρ f) (b := 1) (by omega)]
    have eo : ∀ j, j ≠ 9 → σ1.1 j = σ.1 j := fun j hj => by rw [hσ1, wr_ne hj]
    have hdp : m_X2_dropPageFrame (nI f) σ = if nI (usr ρ f - 1) = 0 then bnd (m_X0_giveBlock (nI f) 0 σ1) (fun _ σ_33 => some (0, σ_33)) else some (0, σ1) := by
      unfold m_X2_dropPageFrame
      rw [bnd_eq (isFrame_t g1), if_neg (by decide), chk_nI g1 (by decide), chk_nI g1 (by decide), chk_nI g1 (by decide), ← hσ1, rd_nI (by omega), e9, upd_eq]
    by_cases u1 : usr ρ f = 1
    · have hz : zm (fun j => zs ρ j ∨ j = f) 0 f = zs ρ := by
        funext j
        refine propext ?_
        unfold zm
        rw [sb0]
        constructor
        · intro q; exact q.1.resolve_right q.2
        · intro q; exact ⟨Or.inl q, fun w => by subst w; have := q.2; rw [k3] at this; exact absurd this (by decide)⟩
      have haf : af (fun j => zs ρ j ∨ j = f) 0 f := fun j hj => Or.inr (sb0.mp hj)
      obtain ⟨σ2, r1, s1, c1⟩ := give_X (k := 0) (f := f) (Z := fun j => zs ρ j ∨ j = f) (σ := σ1) (by decide) g1 (Nat.mod_one f) haf (by rw [hz]; exact hcB.same (eo 4 (by decide)) (eo 5 (by decide)))
      obtain ⟨ρ2, r2, s2, c2, k2⟩ := give_M (k := 0) (f := f) (Z := fun j => zs ρ j ∨ j = f) (σ := ρ) (by decide) g1 (Nat.mod_one f) haf (by rw [hz]; exact hcR)
      have k2' : ∀ j, ρ2.1 2 j = if j = f then 0 else ρ.1 2 j := by
        intro j
        rw [k2 j]
        by_cases ej : j = f
        · rw [if_pos (by omega), if_pos ej]
        · rw [if_neg (by omega), if_neg ej]
      have hzs : zs ρ2 = fun j => zs ρ j ∨ j = f := by
        funext j
        refine propext ?_
        show (j < 128 ∧ ρ2.1 2 j = 0) ↔ ((j < 128 ∧ ρ.1 2 j = 0) ∨ j = f)
        rw [k2' j]
        by_cases ej : j = f
        · subst ej; rw [if_pos rfl]; exact ⟨fun _ => Or.inr rfl, fun _ => ⟨g1, rfl⟩⟩
        · rw [if_neg ej]; exact ⟨Or.inl, fun q => q.resolve_right ej⟩
      have x45 : ∀ j, j ≠ 4 → j ≠ 5 → σ2.1 j = σ1.1 j := fun j a b => s1.2 j (by intro q; rcases List.mem_cons.mp q with q | q; exact a q; rcases List.mem_cons.mp q with q | q; exact b q; cases q)
      refine ⟨σ2, ρ2, ?_, ?_, fun j a b c => by rw [x45 j a b, eo j c], by rw [x45 9 (by decide) (by decide), e9], by rw [s1.1, hσ1]; rfl, fun j a b => s2.2 j (by intro q; rcases List.mem_cons.mp q with q | q; exact a q; rcases List.mem_cons.mp q with q | q; exact b q; cases q), s2.1, fun j _ => ?_, by rw [hzs]; exact c1, by rw [hzs]; exact c2⟩
      · rw [hdp, u1, if_pos (show nI (1 - 1) = 0 from rfl), bnd_eq (show m_X0_giveBlock (nI f) 0 σ1 = _ from r1)]
      · rw [u1, if_pos (show nI 1 = 1 from rfl)]; exact r2
      · rw [k2' j]
        by_cases ej : j = f
        · rw [if_pos ej, if_pos ⟨ej, u1⟩]
        · rw [if_neg ej, if_neg (fun w => ej w.1)]
    · refine ⟨σ1, ρ, ?_, ?_, fun j _ _ c => eo j c, e9, by rw [hσ1]; rfl, fun _ _ _ => rfl, rfl, fun j _ => by rw [if_neg (fun w => u1 w.2)], hcB.same (eo 4 (by decide)) (eo 5 (by decide)), hcR⟩
      · rw [hdp, if_neg (fun w => by have := (nI_01 (by omega)).mp w; omega)]
      · rw [if_neg (show ¬ nI (usr ρ f) = 1 from fun w => u1 ((nI_eq (b := 1) (by omega) (by decide)).mp w))]
  obtain ⟨σ2, ρ2, d1, d2, xo2, x9, xs2, mo2, ms2, m2, cb2, cr2⟩ := hframe
  -- the break
  obtain ⟨σ3, hσ3⟩ : ∃ z, z = wr σ2 14 (nI p) (nI k) := ⟨_, rfl⟩
  obtain ⟨ρ3, hρ3⟩ : ∃ z, z = wr ρ2 7 (nI p) (nI k) := ⟨_, rfl⟩
  have y2 : ρ3.1 2 = ρ2.1 2 := by rw [hρ3, wr_ne (by decide)]
  have yz : zs ρ3 = zs ρ2 := by unfold zs; rw [y2]
  have mo3 : ∀ j, j ≠ 1 → j ≠ 2 → j ≠ 7 → ρ3.1 j = ρ.1 j := fun j a b c => by rw [hρ3, wr_ne c, mo2 j a b]
  have m73 : ρ3.1 7 = upd (ρ.1 7) p (nI k) := by rw [hρ3, wr_at (by omega), mo2 7 (by decide) (by decide)]
  have hR3 : Rl σ3 ρ3 := pgdel h hp hl hb hf (by rw [hσ3, wr_at (by omega), xo2 14 (by decide) (by decide) (by decide)]) (by rw [hσ3, wr_ne (by decide)]; exact x9) (fun j a b c d => by rw [hσ3, wr_ne d, xo2 j a b c]) (by rw [hσ3, wr_2]; exact xs2)
    m73 mo3 (by rw [hρ3, wr_2]; exact ms2) (fun j hj => by rw [y2]; exact m2 j hj) (by rw [yz]; exact cb2.same (by rw [hσ3, wr_ne (by decide)]) (by rw [hσ3, wr_ne (by decide)])) (by rw [yz, hρ3, wr_ne (by decide)]; exact cr2)
  have bk3 : bk ρ3 p = k := by unfold bk; rw [m73, upd_eq, nI_cl (by omega)]
  have kdd : ∀ j, j < 128 → ρ3.1 2 j = ρ.1 2 j ∨ (ρ.1 2 j = nI 3 ∧ ρ3.1 2 j = 0) := fun j hj => by
    rw [y2, m2 j hj]
    by_cases q : j = f ∧ usr ρ f = 1
    · rw [if_pos q, q.1]; exact Or.inr ⟨k3, rfl⟩
    · rw [if_neg q]; exact Or.inl rfl
  -- the reference up to the table
  have hM : m_X3_dropPage (nI p) ρ = if nI (k % 16) = 0 then chk (nI (16 * p + k / 16)) 256 (bnd (m_X3_giveSmall (rd ρ3 12 (nI (16 * p + k / 16))) ρ3) (fun _ σ_66 => some (0, σ_66))) else some (0, ρ3) := by
    unfold m_X3_dropPage
    rw [rd_nI (i := p) (by omega), h7, nI_pred, hmod, hdiv, q256, pk_mul, nI_add, chk_nI hp (by decide), chk_nI (i := 256 * p + k) (by omega) (by decide), rd_nI (i := 256 * p + k) (by omega), g2, bnd_eq (users_t h.u g1), show (16 : Int32) * nI p + nI (k / 16) = nI (16 * p + k / 16) by rw [q16, pk_mul, nI_add]]
    by_cases u1 : nI (usr ρ f) = 1
    · rw [if_pos u1] at d2
      rw [if_pos u1, bnd_eq d2, chk_nI hp (by decide), ← hρ3]
    · rw [if_neg u1] at d2
      rw [if_neg u1, chk_nI hp (by decide), ← d2, ← hρ3]
  by_cases hz : k % 16 = 0
  · -- with its table
    obtain ⟨tab, htab⟩ : ∃ t, t = tbN ρ p (k / 16) := ⟨_, rfl⟩
    rw [← htab] at tt1 tt2 tt3 tt4 tt5
    have u3 : ρ3.1 3 tab = 1 := by rw [mo3 3 (by decide) (by decide) (by decide)]; exact tt3
    have kt : ρ3.1 2 (tab / 4) = nI 2 := by
      rcases kdd (tab / 4) (by omega) with w | ⟨w, -⟩
      · rw [w]; exact tt4
      · rw [tt4] at w; exact absurd w (by decide)
    have hB23 : rB σ2 ρ3 := hR3.1.cong (fun j hj => by rw [hσ3, wr_ne (by revert j; decide)]) (fun _ _ => rfl)
    obtain ⟨σ4, ρ4, v1, v2, sx, sm', e3, hB4, hcs⟩ := pairG_t hB23 tt1 u3 kt
    obtain ⟨kp, kk3, kk4, kd4⟩ := give_keep (s := 2) (Or.inr rfl) tt1 u3 kt e3 hcs
    obtain ⟨σ5, hσ5⟩ : ∃ z, z = wr σ4 14 (nI p) (nI k) := ⟨_, rfl⟩
    have s35 : sam [4, 5, 7] σ3 σ5 := by
      refine ⟨by rw [hσ5, hσ3, wr_2, wr_2]; exact sx.1, fun j hj => ?_⟩
      by_cases j14 : j = 14
      · subst j14; rw [hσ5, hσ3, wr_at (by omega), wr_at (by omega), sx.2 14 (by decide)]
      · rw [hσ5, hσ3, wr_ne j14, wr_ne j14]; exact sx.2 j hj
    have hB5 : rB σ5 ρ4 := hB4.cong (fun j hj => by rw [hσ5, wr_ne (by revert j; decide)]) (fun _ _ => rfl)
    have etb3 : ∀ q t, tbN ρ3 q t = tbN ρ q t := fun q t => by unfold tbN; rw [mo3 12 (by decide) (by decide) (by decide)]
    have hR5 : Rl σ5 ρ4 := hR3.places (Or.inr rfl) s35 sm' hB5 kp kk3 kk4 kd4 (fun q hq hn e => by
        have := (hR3.2.2.2.2.1.1 q hq hn).2.2.2.2
        rw [e, kt] at this
        exact absurd this (by decide)) (fun q t hq ht e => by
        rw [etb3, htab] at e
        by_cases eq : q = p
        · subst eq
          rw [bk3] at ht
          have := hT.2 q t q (k / 16) hq hq (by omega) (by omega) e
          omega
        · have hbq : bk ρ3 q = bk ρ q := by unfold bk; rw [m73, upd_ne eq]
          rw [hbq] at ht
          exact eq (hT.2 q t p (k / 16) hq hp ht (by omega) e).1)
    have mo4 : ∀ j, j ≠ 1 → j ≠ 2 → j ≠ 3 → ρ4.1 j = ρ3.1 j := fun j a b c => sm'.2 j (by intro q; rcases List.mem_cons.mp q with q | q; exact a q; rcases List.mem_cons.mp q with q | q; exact b q; rcases List.mem_cons.mp q with q | q; exact c q; cases q)
    refine ⟨σ5, ρ4, fun n x2 hx => ?_, ?_, hR5, ?_, fun j a b c d e => ?_, fun j a b c d => ?_, ?_, ?_, ?_, fun j hj => ?_, fun r hr => by rw [e3, upd_ne (by rw [htab]; exact fun w => hr hz w.symm), mo3 3 (by decide) (by decide) (by decide)], fun _ => by rw [e3, ← htab, upd_eq]⟩
    · rw [f_X2_shrinkTo_9, if_neg hx, bnd_eq hfr, bnd_eq d1, hmod, if_pos (by rw [hz]; rfl)]
      have hdt : m_X2_dropTable (nI p) (nI k) σ2 = some (0, σ4) := by
        unfold m_X2_dropTable
        rw [bnd_eq (tableIndex_t (r := rcN ρ p) hp (by omega) (by rw [xo2 15 (by decide) (by decide) (by decide)]; exact qq3)), bnd_eq (wordAt_t (by omega)), xo2 8 (by decide) (by decide) (by decide), tt5, bnd_eq v1]
      rw [bnd_eq hdt, chk_nI hp (by decide), nI_s1, ← hσ5]
    · rw [hM, if_pos (by rw [hz]; rfl), chk_nI (by omega) (by decide), rd_nI (by omega), mo3 12 (by decide) (by decide) (by decide), tt2, bnd_eq v2]
    · unfold bk; rw [mo4 7 (by decide) (by decide) (by decide)]; exact bk3
    · rw [s35.2 j (by intro q; rcases List.mem_cons.mp q with q | q; exact a q; rcases List.mem_cons.mp q with q | q; exact b q; rcases List.mem_cons.mp q with q | q; exact c q; cases q), hσ3, wr_ne e, xo2 j a b d]
    · rw [mo4 j a b c, mo3 j a b d]
    · rw [mo4 7 (by decide) (by decide) (by decide), m73]
    · rw [s35.1, hσ3, wr_2]; exact xs2
    · rw [sm'.1, hρ3, wr_2]; exact ms2
    · rcases hcs with ⟨-, e2⟩ | ⟨-, e2⟩
      · rw [e2]
        rcases kdd j hj with w | ⟨w1, w2⟩
        · exact Or.inl w
        · exact Or.inr ⟨Or.inl w1, w2⟩
      · rw [e2 j]
        by_cases ej : j = tab / 4
        · rw [if_pos ej, ej]; exact Or.inr ⟨Or.inr tt4, rfl⟩
        · rw [if_neg ej]
          rcases kdd j hj with w | ⟨w1, w2⟩
          · exact Or.inl w
          · exact Or.inr ⟨Or.inl w1, w2⟩
  · refine ⟨σ3, ρ3, fun n x2 hx => ?_, ?_, hR3, bk3, fun j a b c d e => by rw [hσ3, wr_ne e, xo2 j a b d], fun j a b c d => mo3 j a b d, m73, by rw [hσ3, wr_2]; exact xs2, by rw [hρ3, wr_2]; exact ms2, fun j hj => ?_, fun r _ => by rw [mo3 3 (by decide) (by decide) (by decide)], fun w => absurd w hz⟩
    · rw [f_X2_shrinkTo_9, if_neg hx, bnd_eq hfr, bnd_eq d1, hmod, if_neg (fun w => hz ((nI_01 (by omega)).mp w)), chk_nI hp (by decide), nI_s1, ← hσ3]
    · rw [hM, if_neg (fun w => hz ((nI_01 (by omega)).mp w))]
    · rcases kdd j hj with w | ⟨w1, w2⟩
      · exact Or.inl w
      · exact Or.inr ⟨Or.inl w1, w2⟩
theorem shrink {p b : Nat} (hp : p < 16) : ∀ (d n : Nat) (σ ρ : KS), Rl σ ρ → ρ.1 6 p = 1 → bk ρ p = b + d → d < n →
    ∃ σ' ρ', f_X2_shrinkTo_9 n (nI p) (nI b) (nI (b + d) - 1) σ = some (0, σ') ∧ (∀ (F : Nat → KS → KR) (G : KS → KR) (N : Nat), (∀ n τ c, τ.1 7 p = nI (b + (c + 1)) → b + (c + 1) ≤ 256 → F (n + 1) τ = bnd (m_X3_dropPage (nI p) τ) (fun _ τ1 => F n τ1)) → (∀ n τ, τ.1 7 p = nI b → F (n + 1) τ = G τ) → d < N → F N ρ = G ρ') ∧ Rl σ' ρ' ∧ bk ρ' p = b ∧
      (∀ j, j ≠ 4 → j ≠ 5 → j ≠ 7 → j ≠ 9 → j ≠ 14 → σ'.1 j = σ.1 j) ∧ (∀ j, j ≠ 1 → j ≠ 2 → j ≠ 3 → j ≠ 7 → ρ'.1 j = ρ.1 j) ∧ (∀ q, q ≠ p → ρ'.1 7 q = ρ.1 7 q) ∧ σ'.2 = σ.2 ∧ ρ'.2 = ρ.2 ∧
      (∀ j, j < 128 → ρ'.1 2 j = ρ.1 2 j ∨ ((ρ.1 2 j = nI 3 ∨ ρ.1 2 j = nI 2) ∧ ρ'.1 2 j = 0)) ∧ (∀ r, (∀ t, b ≤ 16 * t → 16 * t < b + d → tbN ρ p t ≠ r) → ρ'.1 3 r = ρ.1 3 r) ∧ (∀ t, b ≤ 16 * t → 16 * t < b + d → ρ'.1 3 (tbN ρ p t) = 0) := by
  intro d
  induction d with
  | zero =>
    intro n σ ρ h hl hb hn
    obtain ⟨n', rfl⟩ : ∃ n', n = n' + 1 := ⟨n - 1, by omega⟩
    have b5 := (h.2.2.2.1 p hp).2.2.2.2.1
    refine ⟨σ, ρ, ?_, fun F G N h1 h2 h3 => ?_, h, hb, fun _ _ _ _ _ _ => rfl, fun _ _ _ _ _ => rfl, fun _ _ => rfl, rfl, rfl, fun _ _ => Or.inl rfl, fun _ _ => rfl, fun t a b => by omega⟩
    · rw [f_X2_shrinkTo_9, Nat.add_zero]
      cases b with
      | zero => rw [if_pos (m1_lt (by decide))]
      | succ b => rw [nI_pred, if_pos (nI_lt (by omega) (by omega))]
    obtain ⟨N', rfl⟩ : ∃ N', N = N' + 1 := ⟨N - 1, by omega⟩
    exact h2 N' ρ (by rw [(h.2.2.2.1 p hp).2.2.2.1, hb]; rfl)
  | succ d ih =>
    intro n σ ρ h hl hb hn
    obtain ⟨n', rfl⟩ : ∃ n', n = n' + 1 := ⟨n - 1, by omega⟩
    have b5 := (h.2.2.2.1 p hp).2.2.2.2.1
    obtain ⟨σ1, ρ1, r1, r2, hR, hb1, xo, mo, m7, xs, ms, kd, ua, ub⟩ := pairDrop (k := b + d) h hp hl (by omega)
    obtain ⟨σ2, ρ2, r3, r4, hR2, hb2, xo2, mo2, m72, xs2, ms2, kd2, ua2, ub2⟩ := ih n' σ1 ρ1 hR (by rw [mo 6 (by decide) (by decide) (by decide) (by decide)]; exact hl) hb1 (by omega)
    refine ⟨σ2, ρ2, ?_, ?_, hR2, hb2, fun j a b c d e => by rw [xo2 j a b c d e, xo j a b c d e], fun j a b c d => by rw [mo2 j a b c d, mo j a b c d], fun q hq => by rw [m72 q hq, m7, upd_ne hq], by rw [xs2, xs], by rw [ms2, ms], fun j hj => ?_, fun r hr => ?_, fun t ht1 ht2 => ?_⟩
    · rw [show b + (d + 1) = b + d + 1 from rfl, nI_pred, r1 n' (nI b) (nI_nlt (by omega) (by omega))]
      exact r3
    · intro F G N h1 h2 h3
      obtain ⟨N', rfl⟩ : ∃ N', N = N' + 1 := ⟨N - 1, by omega⟩
      rw [h1 N' ρ d (by rw [(h.2.2.2.1 p hp).2.2.2.1, hb]) (by omega), bnd_eq r2]
      exact r4 F G N' h1 h2 (by omega)
    · rcases kd j hj with w | ⟨w1, w2⟩
      · rcases kd2 j hj with z | ⟨z1, z2⟩
        · left; rw [z, w]
        · right; rw [w] at z1; exact ⟨z1, z2⟩
      · rcases kd2 j hj with z | ⟨z1, z2⟩
        · right; exact ⟨w1, by rw [z, w2]⟩
        · right; exact ⟨w1, z2⟩
    · have etb : ∀ t, tbN ρ1 p t = tbN ρ p t := fun t => by unfold tbN; rw [mo 12 (by decide) (by decide) (by decide) (by decide)]
      rw [ua2 r (fun t a b => by rw [etb]; exact hr t a (by omega)), ua r (fun hz => hr ((b + d) / 16) (by omega) (by omega))]
    · have etb : ∀ t, tbN ρ1 p t = tbN ρ p t := fun t => by unfold tbN; rw [mo 12 (by decide) (by decide) (by decide) (by decide)]
      by_cases e : 16 * t < b + d
      · have := ub2 t ht1 e
        rw [etb] at this
        exact this
      · have et : t = (b + d) / 16 := by omega
        have hz : (b + d) % 16 = 0 := by omega
        rw [ua2 _ (fun t' a b' => by
          rw [etb]
          intro w
          have := (h.2.2.2.2.2.1.2 p t' p t hp hp (by omega) (by omega) w).2
          omega), et]
        exact ub hz
