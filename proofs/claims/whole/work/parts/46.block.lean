/-! PURE: block and unblock -/
/-- the frames of the kind v are the same -/
def kv (v : Nat) (ρ ρ' : KS) : Prop := ∀ i, i < 128 → (ρ'.1 2 i = nI v ↔ ρ.1 2 i = nI v)
theorem pS.kv {s u : Nat} {σ ρ σ' ρ' : KS} (h : pS s u σ ρ) (a : σ'.1 u = σ.1 u) (b : ρ'.1 3 = ρ.1 3) (hk : kv s ρ ρ') : pS s u σ' ρ' := by
  intro f hf
  obtain ⟨x, x1, x2, x3, x4⟩ := h f hf
  exact ⟨x, x1, by rw [a]; exact x2, by rw [hk f hf]; exact x3, by rw [b]; exact x4⟩
theorem pO.kv {ρ ρ' : KS} (h : pO ρ) (b : ρ'.1 3 = ρ.1 3) (h1 : kv 1 ρ ρ') (h2 : kv 2 ρ ρ') : pO ρ' := by
  intro f hf n1 n2 i hi
  rw [b]
  exact h f hf (fun q => n1 ((h1 f hf).mpr q)) (fun q => n2 ((h2 f hf).mpr q)) i hi
theorem rQ.kv {σ ρ σ' ρ' : KS} (h : rQ σ ρ) (a : σ'.1 15 = σ.1 15) (b : ∀ k ∈ [3, 6, 10], ρ'.1 k = ρ.1 k) (hk : kv 1 ρ ρ') : rQ σ' ρ' := by
  have b2 := b 3 (by decide); have b3 := b 6 (by decide); have b4 := b 10 (by decide)
  unfold rQ rcN at *
  rw [a, b2, b3, b4]
  exact ⟨fun p hp hn => ⟨(h.1 p hp hn).1, (h.1 p hp hn).2.1, (h.1 p hp hn).2.2.1, (h.1 p hp hn).2.2.2.1, (hk _ (by have := (h.1 p hp hn).1; omega)).mpr (h.1 p hp hn).2.2.2.2⟩, h.2⟩
theorem rT.kv {σ ρ σ' ρ' : KS} (h : rT σ ρ) (a : σ'.1 8 = σ.1 8) (b : ∀ k ∈ [3, 7, 10, 12], ρ'.1 k = ρ.1 k) (hk : kv 2 ρ ρ') : rT σ' ρ' := by
  have b2 := b 3 (by decide); have b3 := b 7 (by decide); have b4 := b 10 (by decide); have b5 := b 12 (by decide)
  unfold rT rcN tbN bk at *
  rw [a, b2, b3, b4, b5]
  exact ⟨fun p t hp ht => ⟨(h.1 p t hp ht).1, (h.1 p t hp ht).2.1, (h.1 p t hp ht).2.2.1, (hk _ (by have := (h.1 p t hp ht).1; omega)).mpr (h.1 p t hp ht).2.2.2.1, (h.1 p t hp ht).2.2.2.2⟩, h.2⟩
theorem rG.kv {σ ρ σ' ρ' : KS} (h : rG σ ρ) (a : ∀ k ∈ [8, 9], σ'.1 k = σ.1 k) (b : ∀ k ∈ [4, 7, 11, 12], ρ'.1 k = ρ.1 k) (hk : kv 3 ρ ρ') : rG σ' ρ' := by
  have a1 := a 8 (by decide); have a2 := a 9 (by decide)
  have b2 := b 4 (by decide); have b3 := b 7 (by decide); have b4 := b 11 (by decide); have b5 := b 12 (by decide)
  unfold rG usr pgN tbN bk at *
  rw [a1, a2, b2, b3, b4, b5]
  exact ⟨h.1, fun f hf => ⟨(h.2.1 f hf).1, by rw [hk f hf]; exact (h.2.1 f hf).2⟩, fun f w hf hw h3 => h.2.2 f w hf hw ((hk f hf).mp h3)⟩
theorem rK.kv {σ ρ σ' ρ' : KS} (h : rK σ ρ) (a : σ'.1 10 = σ.1 10) (b : ρ'.1 5 = ρ.1 5) (hk : kv 4 ρ ρ') : rK σ' ρ' := by
  unfold rK at *
  rw [a, b]
  exact ⟨h.1, h.2.1, fun i hi => by rw [hk i hi]; exact h.2.2.1 i hi, h.2.2.2⟩
/-- nothing was taken: what was laid aside comes back, one refusal more -/
theorem refused {σ ρ ρ1 ρ2 : KS} (h : Rel σ ρ) (s1 : sam [14, 15, 16] ρ ρ1) (l1 : ∀ i, i < 1024 → ρ1.1 14 i = ρ.1 1 i) (l2 : ∀ i, i < 128 → ρ1.1 15 i = ρ.1 2 i) (l3 : ∀ i, i < 512 → ρ1.1 16 i = ρ.1 3 i) (s2 : sam [1, 2, 3] ρ1 ρ2) (d1 : ∀ i, i < 1024 → ρ2.1 1 i = ρ1.1 14 i) (d2 : ∀ i, i < 128 → ρ2.1 2 i = ρ1.1 15 i) (d3 : ∀ i, i < 512 → ρ2.1 3 i = ρ1.1 16 i) : Rel (sv σ 2 (σ.2 2 + 1)) (sv ρ2 2 (ρ1.2 2 + 1)) := by
  have eo : ∀ k ∈ [4, 5, 6, 7, 8, 9, 10, 11, 12, 13], (sv ρ2 2 (ρ1.2 2 + 1)).1 k = ρ.1 k := fun k hk => by
    have hk1 : k ∉ [1, 2, 3] := by revert k; decide
    have hk2 : k ∉ [14, 15, 16] := by revert k; decide
    rw [sv_1, s2.2 k hk1, s1.2 k hk2]
  have hσ : Rel (sv σ 2 (σ.2 2 + 1)) (sv ρ 2 (ρ.2 2 + 1)) := by
    obtain ⟨hB, hD, hK, hP, hQ, hT, hG, hR, hS⟩ := h
    refine ⟨hB.cong (fun _ _ => rfl) (fun _ _ => rfl), hD, hK, hP.cong (fun _ _ => rfl) (fun _ _ => rfl), hQ, hT, hG, hR.cong rfl (fun _ _ => rfl) (sv_ne (by decide)) (sv_ne (by decide)), ?_, ?_, ?_⟩
    · rw [sv_ne (by decide), sv_ne (by decide)]; exact hS.1
    · rw [sv_at, sv_at, hS.2.1]
    · rw [sv_ne (by decide), sv_ne (by decide)]; exact hS.2.2
  refine hσ.swap ⟨fun i hi => ?_, fun i hi => ?_, fun p hp => ?_, fun p t _ _ => ?_, fun p k _ _ => ?_, fun f w _ _ _ => ?_, fun f _ => ?_, fun i _ => ?_, ?_⟩ ?_ ?_
  · rw [sv_1, d2 i hi, l2 i hi]; rfl
  · rw [sv_1, d3 i hi, l3 i hi]; rfl
  · rw [eo 6 (by decide), eo 7 (by decide), eo 8 (by decide), eo 9 (by decide), eo 10 (by decide)]
    exact ⟨rfl, rfl, fun _ => ⟨rfl, rfl⟩, rfl⟩
  · rw [eo 12 (by decide)]; rfl
  · rw [eo 11 (by decide)]; rfl
  · rw [eo 4 (by decide)]; rfl
  · rw [eo 5 (by decide)]; rfl
  · rw [eo 13 (by decide)]; rfl
  · rw [sv_ne (by decide), sv_ne (by decide), s2.1, s1.1]
  · show canR (ρ2.1 1) (zs ρ)
    have hC := h.1.2.1
    intro g j hg hj
    rw [d1 _ (by omega), l1 _ (by omega)]
    exact hC g j hg hj
  · obtain ⟨-, -, -, -, -, -, -, -, hS⟩ := h
    refine ⟨?_, ?_, ?_⟩
    · rw [sv_ne (by decide), sv_ne (by decide), s2.1, s1.1]; exact hS.1
    · rw [sv_at, sv_at, s1.1, hS.2.1]
    · rw [sv_ne (by decide), sv_ne (by decide), s2.1, s1.1]; exact hS.2.2
theorem blockM_l {f o : Nat} (ho : o < 8) (hf : f + 2 ^ o ≤ 128) : ∀ (n i : Nat) (ρ : KS), f ≤ i → i ≤ f + 2 ^ o → f + 2 ^ o < n + i → ∃ ρ', f_X3_block_41 n (nI o) (nI f) (nI i) ρ = some (nI f, ρ') ∧ sam [2] ρ ρ' ∧ ∀ j, ρ'.1 2 j = if i ≤ j ∧ j < f + 2 ^ o then nI 4 else ρ.1 2 j := by
  intro n
  induction n with
  | zero => intro i ρ a b c; omega
  | succ n ih =>
    intro i ρ a b c
    rw [f_X3_block_41, sh1 o ho, nI_add]
    by_cases e : i = f + 2 ^ o
    · subst e
      rw [if_pos (nI_le (by omega) (by omega))]
      exact ⟨ρ, rfl, sam.refl, fun j => by rw [if_neg (by omega)]⟩
    · rw [if_neg (nI_ge (by omega) (by omega)), chk_nI (by omega) (by decide), show nI i + 1 = nI (i + 1) from nI_1 i]
      obtain ⟨ρ1, r1, s1, d1⟩ := ih (i + 1) (wr ρ 2 (nI i) 4) (by omega) (by omega) (by omega)
      refine ⟨ρ1, r1, (sam.wr (by decide)).trans s1, fun j => ?_⟩
      rw [d1, wr_at (by omega)]
      by_cases ej : j = i
      · subst ej; rw [if_neg (by omega), if_pos (by omega), upd_eq]; rfl
      · rw [upd_ne ej]
        by_cases q : i ≤ j ∧ j < f + 2 ^ o
        · rw [if_pos (by omega), if_pos q]
        · rw [if_neg (by omega), if_neg q]
theorem sim_block : ∀ (a : Int32) (σ ρ : KS), Rel σ ρ → ∃ (r : Int32) (σ' ρ' : KS), m_X2_block a σ = some (r, σ') ∧ m_X3_block a ρ = some (r, ρ') ∧ Rel σ' ρ' := by
  intro a σ ρ h
  unfold m_X2_block m_X3_block
  rcases pk_ix a (n := 8) (by decide) with q | q | ⟨o, ho, rfl⟩
  · rw [bnd_eq (isOrder_f (Or.inl q)), if_pos rfl, if_pos q]; exact ⟨-2, σ, ρ, rfl, rfl, h⟩
  · rw [bnd_eq (isOrder_f (Or.inr q)), if_pos rfl]
    refine ⟨-2, σ, ρ, rfl, ?_, h⟩
    by_cases h0 : a < 0
    · rw [if_pos h0]
    · rw [if_neg h0, if_neg]
      rw [Int32.lt_iff_toInt_lt]
      rw [Int32.le_iff_toInt_le, nI_toInt (by decide)] at q
      have : (8 : Int32).toInt = 8 := rfl
      omega
  · rw [bnd_eq (isOrder_t ho), if_neg (by decide), if_neg (show ¬ nI o < 0 from nI_nlt (b := 0) (by omega) (by omega)), if_pos (show nI o < (8 : Int32) from nI_lt (b := 8) ho (by omega))]
    obtain ⟨⟨hB, hC, hP1, hP2, hO⟩, hD, hK, hP, hQ, hT, hG, hR, hS⟩ := id h
    obtain ⟨ρ1, r1, s1, l1, l2, l3⟩ := layAside_t (ρ := ρ) (fun i hi => fr01 hC hi) (fun i hi => us01 h.1 hi)
    have e1 : ∀ k, k ≠ 14 → k ≠ 15 → k ≠ 16 → ρ1.1 k = ρ.1 k := fun k a b c => s1.2 k (by intro q; rcases List.mem_cons.mp q with q | q; exact a q; rcases List.mem_cons.mp q with q | q; exact b q; rcases List.mem_cons.mp q with q | q; exact c q; cases q)
    have ez1 : zs ρ1 = zs ρ := by unfold zs; rw [e1 2 (by decide) (by decide) (by decide)]
    rw [bnd_eq r1]
    rcases take_X hB ho with ⟨k, f, σ1, hl, rx, sx, cx⟩ | ⟨hn, rx⟩
    · rcases take_M (σ := ρ1) (Z := zs ρ) (o := o) (by rw [e1 1 (by decide) (by decide) (by decide)]; exact hC) ho with ⟨k', f', ρ2, hl', rm, sm', cm⟩ | ⟨hn', -⟩
      · obtain ⟨e, e'⟩ := hl.uniq hl'
        subst e; subst e'
        have hf : f' < 128 := hl.2.2.1
        have ha : f' % 2 ^ o = 0 := al_mono hl.1 hl.2.2.2.1
        have hle := al_le ho hf ha
        have haf : af (zs ρ) o f' := hl.2.2.2.2.1.1.mono hl.1
        have hp := pw8 ho
        obtain ⟨ρ3, rf, sf, df⟩ := blockM_l ho hle FU f' (wr ρ2 5 (nI f') (nI o)) (Nat.le_refl _) (by omega) (show f' + 2 ^ o < 1100 + f' by omega)
        have x2 : ∀ k, k ≠ 1 → k ≠ 14 → k ≠ 15 → k ≠ 16 → ρ2.1 k = ρ.1 k := fun k w a b c => by rw [sm'.2 k (by intro q; rcases List.mem_cons.mp q with q | q; exact w q; cases q), e1 k a b c]
        have x3 : ∀ k, k ≠ 1 → k ≠ 2 → k ≠ 5 → k ≠ 14 → k ≠ 15 → k ≠ 16 → ρ3.1 k = ρ.1 k := fun k w w2 w5 a b c => by rw [sf.2 k (by intro q; rcases List.mem_cons.mp q with q | q; exact w2 q; cases q), wr_ne w5, x2 k w a b c]
        have x5 : ρ3.1 5 = upd (ρ.1 5) f' (nI o) := by rw [sf.2 5 (by decide), wr_at (by omega), x2 5 (by decide) (by decide) (by decide) (by decide)]
        have kd : ∀ j, ρ3.1 2 j = @ite Int32 (sb o j f') (Classical.propDecidable _) (nI 4) (ρ.1 2 j) := fun j => by
          rw [df j, wr_ne (by decide), x2 2 (by decide) (by decide) (by decide) (by decide)]
          by_cases q : sb o j f'
          · rw [if_pos q, if_pos ((sb_iff ha).mp q)]
          · rw [if_neg q, if_neg (fun w => q ((sb_iff ha).mpr w))]
        have hz : ∀ j, sb o j f' → ρ.1 2 j = 0 := fun j hj => (haf j hj).2
        have ez : zs ρ3 = zm (zs ρ) o f' := by
          funext j
          refine propext ?_
          unfold zm zs
          rw [kd j]
          by_cases q : sb o j f'
          · rw [if_pos q]; exact ⟨fun w => absurd w.2 (by decide), fun w => absurd q w.2⟩
          · rw [if_neg q]; exact ⟨fun w => ⟨w, q⟩, fun w => w.1⟩
        have kvv : ∀ v, v = 1 ∨ v = 2 ∨ v = 3 → kv v ρ ρ3 := by
          intro v hv i hi
          rw [kd i]
          by_cases q : sb o i f'
          · rw [if_pos q, hz i q]
            rcases hv with rfl | rfl | rfl <;> decide
          · rw [if_neg q]
        have hσ : ∀ k, k ≠ 4 → k ≠ 5 → k ≠ 10 → (wr σ1 10 (nI f') (nI o)).1 k = σ.1 k := fun k a b c => by rw [wr_ne c, sx.2 k (by intro q; rcases List.mem_cons.mp q with q | q; exact a q; rcases List.mem_cons.mp q with q | q; exact b q; cases q)]
        have hscM : ρ3.2 = ρ.2 := by rw [sf.1, wr_2, sm'.1, s1.1]
        have hscX : (wr σ1 10 (nI f') (nI o)).2 = σ.2 := by rw [wr_2, sx.1]
        refine ⟨nI f', wr σ1 10 (nI f') (nI o), ρ3, ?_, ?_, ⟨⟨?_, ?_, ?_, ?_, ?_⟩, ?_, ⟨?_, ?_, ?_, ?_⟩, ?_, ?_, ?_, ?_, ?_, ?_⟩⟩
        · rw [bnd_eq rx, bnd_eq (isFrame_t hf), if_neg (by decide), chk_nI hf (by decide)]
        · rw [bnd_eq rm, if_pos (show (0 : Int32) ≤ nI f' from nI_le (a := 0) (by omega) (by omega)), chk_nI hf (by decide)]; exact rf
        · rw [ez]; exact cx.same (wr_ne (by decide)) (wr_ne (by decide))
        · rw [ez, sf.2 1 (by decide), wr_ne (by decide)]; exact cm
        · exact hP1.kv (hσ 6 (by decide) (by decide) (by decide)) (x3 3 (by decide) (by decide) (by decide) (by decide) (by decide) (by decide)) (kvv 1 (by decide))
        · exact hP2.kv (hσ 7 (by decide) (by decide) (by decide)) (x3 3 (by decide) (by decide) (by decide) (by decide) (by decide) (by decide)) (kvv 2 (by decide))
        · exact hO.kv (x3 3 (by decide) (by decide) (by decide) (by decide) (by decide) (by decide)) (kvv 1 (by decide)) (kvv 2 (by decide))
        · intro i hi
          rw [kd i]
          by_cases q : sb o i f'
          · rw [if_pos q]; exact ⟨4, by decide, rfl⟩
          · rw [if_neg q]; exact hD i hi
        · intro i hi
          rw [wr_at (by omega), sx.2 10 (by decide), x5]
          by_cases e : i = f'
          · subst e; rw [upd_eq, upd_eq]
          · rw [upd_ne e, upd_ne e]; exact hK.1 i hi
        · intro i hi
          rw [x5]
          by_cases e : i = f'
          · subst e; rw [upd_eq]; exact Or.inr ⟨o, ho, rfl, ha⟩
          · rw [upd_ne e]; exact hK.2.1 i hi
        · intro i hi
          rw [kd i, x5]
          by_cases q : sb o i f'
          · rw [if_pos q]; exact ⟨fun _ => ⟨o, f', ho, hf, ha, q, by rw [upd_eq]⟩, fun _ => rfl⟩
          · rw [if_neg q, hK.2.2.1 i hi]
            constructor
            · intro ⟨k2, g, k1, g1, g2, g3, g4⟩
              refine ⟨k2, g, k1, g1, g2, g3, ?_⟩
              rw [upd_ne]
              · exact g4
              · intro e
                subst e
                have := (hK.2.2.1 g g1).mpr ⟨k2, g, k1, g1, g2, sb.rfl', g4⟩
                rw [hz g sb.rfl'] at this
                exact absurd this (by decide)
            · intro ⟨k2, g, k1, g1, g2, g3, g4⟩
              by_cases e : g = f'
              · subst e
                rw [upd_eq] at g4
                have : o = k2 := (nI_eq (by omega) (by omega)).mp g4
                subst this
                exact absurd g3 q
              · rw [upd_ne e] at g4
                exact ⟨k2, g, k1, g1, g2, g3, g4⟩
        · intro u v ku kv' i u1 v1 k1 k2 ua va eu ev su sv'
          rw [x5] at eu ev
          have old : ∀ g kg, g < 128 → kg < 8 → g % 2 ^ kg = 0 → ρ.1 5 g = nI kg → sb kg i g → ¬ sb o i f' := fun g kg g1 hk1 g2 g3 g4 q => by
            have hi : i < 128 := sb_128 hk1 g1 g4
            have := (hK.2.2.1 i hi).mpr ⟨kg, g, hk1, g1, g2, g4, g3⟩
            rw [hz i q] at this
            exact absurd this (by decide)
          by_cases e : u = f'
          · subst e
            by_cases e2 : v = u
            · exact e2.symm
            · rw [upd_eq] at eu
              rw [upd_ne e2] at ev
              have : o = ku := (nI_eq (by omega) (by omega)).mp eu
              subst this
              exact absurd su (old v kv' v1 k2 va ev sv')
          · rw [upd_ne e] at eu
            by_cases e2 : v = f'
            · subst e2
              rw [upd_eq] at ev
              have : o = kv' := (nI_eq (by omega) (by omega)).mp ev
              subst this
              exact absurd sv' (old u ku u1 k1 ua eu su)
            · rw [upd_ne e2] at ev
              exact hK.2.2.2 u v ku kv' i u1 v1 k1 k2 ua va eu ev su sv'
        · exact hP.cong (fun k hk => hσ k (by revert k; decide) (by revert k; decide) (by revert k; decide)) (fun k hk => x3 k (by revert k; decide) (by revert k; decide) (by revert k; decide) (by revert k; decide) (by revert k; decide) (by revert k; decide))
        · exact hQ.kv (hσ 15 (by decide) (by decide) (by decide)) (fun k hk => x3 k (by revert k; decide) (by revert k; decide) (by revert k; decide) (by revert k; decide) (by revert k; decide) (by revert k; decide)) (kvv 1 (by decide))
        · exact hT.kv (hσ 8 (by decide) (by decide) (by decide)) (fun k hk => x3 k (by revert k; decide) (by revert k; decide) (by revert k; decide) (by revert k; decide) (by revert k; decide) (by revert k; decide)) (kvv 2 (by decide))
        · exact hG.kv (fun k hk => hσ k (by revert k; decide) (by revert k; decide) (by revert k; decide)) (fun k hk => x3 k (by revert k; decide) (by revert k; decide) (by revert k; decide) (by revert k; decide) (by revert k; decide) (by revert k; decide)) (kvv 3 (by decide))
        · exact hR.cong (hσ 16 (by decide) (by decide) (by decide)) (fun k hk => x3 k (by revert k; decide) (by revert k; decide) (by revert k; decide) (by revert k; decide) (by revert k; decide) (by revert k; decide)) (by rw [hscX]) (by rw [hscM])
        · unfold rS; rw [hscX, hscM]; exact hS
      · exact absurd hn' (fun q => hl.not q)
    · rcases take_M (σ := ρ1) (Z := zs ρ) (o := o) (by rw [e1 1 (by decide) (by decide) (by decide)]; exact hC) ho with ⟨k', f', ρ2, hl', -⟩ | ⟨-, rm⟩
      · exact absurd hn (fun q => hl'.not q)
      · obtain ⟨ρ2, r2, s2, d1, d2, d3⟩ := fail_t (ρ := ρ1) (fun i hi => by rw [l1 i hi]; exact fr01 hC hi) (fun i hi => by rw [l3 i hi]; exact us01 h.1 hi)
        refine ⟨-3, sv σ 2 (σ.2 2 + 1), sv ρ2 2 (ρ1.2 2 + 1), ?_, ?_, ?_⟩
        · rw [bnd_eq rx, bnd_eq isFrame_m, if_pos rfl]; rfl
        · rw [bnd_eq rm, if_neg (by decide), bnd_eq r2]
        · exact refused h s1 l1 l2 l3 s2 d1 d2 d3
theorem sim_unblock : ∀ (a : Int32) (σ ρ : KS), Rel σ ρ → ∃ (r : Int32) (σ' ρ' : KS), m_X2_unblock a σ = some (r, σ') ∧ m_X3_unblock a ρ = some (r, ρ') ∧ Rel σ' ρ' := by
  intro a σ ρ h
  unfold m_X2_unblock m_X3_unblock
  rcases pk_ix a (n := 128) (by decide) with q | q | ⟨f, hf, rfl⟩
  · rw [bnd_eq (isFrame_f (Or.inl q)), if_pos rfl, if_pos q]; exact ⟨-2, σ, ρ, rfl, rfl, h⟩
  · rw [bnd_eq (isFrame_f (Or.inr q)), if_pos rfl]
    refine ⟨-2, σ, ρ, rfl, ?_, h⟩
    by_cases h0 : a < 0
    · rw [if_pos h0]
    · rw [if_neg h0, if_pos (show (128 : Int32) ≤ a from q)]
  · obtain ⟨⟨hB, hC, hP1, hP2, hO⟩, hD, hK, hP, hQ, hT, hG, hR, hS⟩ := id h
    rw [bnd_eq (isFrame_t hf), if_neg (by decide), if_neg (show ¬ nI f < 0 from nI_nlt (b := 0) (by omega) (by omega)), if_neg (show ¬ (128 : Int32) ≤ nI f from nI_ge (b := 128) (by omega) (by omega)), chk_nI hf (by decide), chk_nI hf (by decide), chk_nI hf (by decide), chk_nI hf (by decide), chk_nI hf (by decide), chk_nI hf (by decide), rd_nI (by omega), rd_nI (by omega), hK.1 f hf]
    rcases hK.2.1 f hf with e | ⟨o, ho, e, ha⟩
    · rw [e, if_pos rfl, if_neg (by decide)]; exact ⟨-2, σ, ρ, rfl, rfl, h⟩
    · rw [e, if_neg (nI_m1 (by omega)), if_pos (show (0 : Int32) ≤ nI o from nI_le (a := 0) (by omega) (by omega))]
      have hle := al_le ho hf ha
      have hk4 : ∀ i, sb o i f → i < 128 ∧ ρ.1 2 i = nI 4 := fun i hi => ⟨sb_128 ho hf hi, (hK.2.2.1 i (sb_128 ho hf hi)).mpr ⟨o, f, ho, hf, ha, hi, e⟩⟩
      have hz : zm (fun j => zs ρ j ∨ sb o j f) o f = zs ρ := by
        funext j
        refine propext ?_
        unfold zm
        constructor
        · intro w; exact w.1.resolve_right w.2
        · intro w
          refine ⟨Or.inl w, fun q => ?_⟩
          have := (hk4 j q).2
          rw [w.2] at this
          exact absurd this (by decide)
      have haf : af (fun j => zs ρ j ∨ sb o j f) o f := fun j hj => Or.inr hj
      obtain ⟨σ1, rx, sx, cx⟩ := give_X (Z := fun j => zs ρ j ∨ sb o j f) (σ := wr σ 10 (nI f) (-1)) ho hf ha haf (by rw [hz]; exact hB.same (wr_ne (by decide)) (wr_ne (by decide)))
      obtain ⟨ρ1, rm, sm', cm, df⟩ := give_M (Z := fun j => zs ρ j ∨ sb o j f) (σ := wr ρ 5 (nI f) (-1)) ho hf ha haf (by rw [hz, wr_ne (by decide)]; exact hC)
      have x3 : ∀ k, k ≠ 1 → k ≠ 2 → k ≠ 5 → ρ1.1 k = ρ.1 k := fun k w w2 w5 => by rw [sm'.2 k (by intro q; rcases List.mem_cons.mp q with q | q; exact w q; rcases List.mem_cons.mp q with q | q; exact w2 q; cases q), wr_ne w5]
      have x5 : ρ1.1 5 = upd (ρ.1 5) f (-1) := by rw [sm'.2 5 (by decide), wr_at (by omega)]
      have kd : ∀ j, ρ1.1 2 j = @ite Int32 (sb o j f) (Classical.propDecidable _) 0 (ρ.1 2 j) := fun j => by
        rw [df j, wr_ne (by decide)]
        by_cases q : sb o j f
        · rw [if_pos q, if_pos ((sb_iff ha).mp q)]
        · rw [if_neg q, if_neg (fun w => q ((sb_iff ha).mpr w))]
      have ez : zs ρ1 = fun j => zs ρ j ∨ sb o j f := by
        funext j
        refine propext ?_
        show (j < 128 ∧ ρ1.1 2 j = 0) ↔ ((j < 128 ∧ ρ.1 2 j = 0) ∨ sb o j f)
        rw [kd j]
        by_cases q : sb o j f
        · rw [if_pos q]; exact ⟨fun _ => Or.inr q, fun _ => ⟨(hk4 j q).1, rfl⟩⟩
        · rw [if_neg q]; exact ⟨fun w => Or.inl w, fun w => w.resolve_right q⟩
      have kvv : ∀ v, v = 1 ∨ v = 2 ∨ v = 3 → kv v ρ ρ1 := by
        intro v hv i hi
        rw [kd i]
        by_cases q : sb o i f
        · rw [if_pos q, (hk4 i q).2]
          rcases hv with rfl | rfl | rfl <;> decide
        · rw [if_neg q]
      have hσ : ∀ k, k ≠ 4 → k ≠ 5 → k ≠ 10 → σ1.1 k = σ.1 k := fun k a b c => by rw [sx.2 k (by intro q; rcases List.mem_cons.mp q with q | q; exact a q; rcases List.mem_cons.mp q with q | q; exact b q; cases q), wr_ne c]
      have hscM : ρ1.2 = ρ.2 := by rw [sm'.1, wr_2]
      have hscX : σ1.2 = σ.2 := by rw [sx.1, wr_2]
      refine ⟨nI o, σ1, ρ1, by rw [bnd_eq rx], by rw [bnd_eq rm], ⟨⟨?_, ?_, ?_, ?_, ?_⟩, ?_, ⟨?_, ?_, ?_, ?_⟩, ?_, ?_, ?_, ?_, ?_, ?_⟩⟩
      · rw [ez]; exact cx
      · rw [ez]; exact cm
      · exact hP1.kv (hσ 6 (by decide) (by decide) (by decide)) (x3 3 (by decide) (by decide) (by decide)) (kvv 1 (by decide))
      · exact hP2.kv (hσ 7 (by decide) (by decide) (by decide)) (x3 3 (by decide) (by decide) (by decide)) (kvv 2 (by decide))
      · exact hO.kv (x3 3 (by decide) (by decide) (by decide)) (kvv 1 (by decide)) (kvv 2 (by decide))
      · intro i hi
        rw [kd i]
        by_cases q : sb o i f
        · rw [if_pos q]; exact ⟨0, by decide, rfl⟩
        · rw [if_neg q]; exact hD i hi
      · intro i hi
        rw [sx.2 10 (by decide), wr_at (by omega), x5]
        by_cases e : i = f
        · subst e; rw [upd_eq, upd_eq]
        · rw [upd_ne e, upd_ne e]; exact hK.1 i hi
      · intro i hi
        rw [x5]
        by_cases e : i = f
        · subst e; rw [upd_eq]; exact Or.inl rfl
        · rw [upd_ne e]; exact hK.2.1 i hi
      · intro i hi
        rw [kd i, x5]
        by_cases q : sb o i f
        · rw [if_pos q]
          refine ⟨fun w => absurd w (by decide), fun ⟨k2, g, k1, g1, g2, g3, g4⟩ => ?_⟩
          by_cases eg : g = f
          · subst eg; rw [upd_eq] at g4; exact absurd g4 (m1_nI (by omega))
          · rw [upd_ne eg] at g4
            exact absurd (hK.2.2.2 g f k2 o i g1 hf k1 ho g2 ha g4 e g3 q) eg
        · rw [if_neg q, hK.2.2.1 i hi]
          constructor
          · intro ⟨k2, g, k1, g1, g2, g3, g4⟩
            refine ⟨k2, g, k1, g1, g2, g3, ?_⟩
            rw [upd_ne]
            · exact g4
            · intro eg
              subst eg
              rw [e] at g4
              have : o = k2 := (nI_eq (by omega) (by omega)).mp g4
              subst this
              exact q g3
          · intro ⟨k2, g, k1, g1, g2, g3, g4⟩
            by_cases eg : g = f
            · subst eg; rw [upd_eq] at g4; exact absurd g4 (m1_nI (by omega))
            · rw [upd_ne eg] at g4
              exact ⟨k2, g, k1, g1, g2, g3, g4⟩
      · intro u v ku kv' i u1 v1 k1 k2 ua va eu ev su sv'
        rw [x5] at eu ev
        by_cases e1 : u = f
        · subst e1; rw [upd_eq] at eu; exact absurd eu (m1_nI (by omega))
        · by_cases e2 : v = f
          · subst e2; rw [upd_eq] at ev; exact absurd ev (m1_nI (by omega))
          · rw [upd_ne e1] at eu
            rw [upd_ne e2] at ev
            exact hK.2.2.2 u v ku kv' i u1 v1 k1 k2 ua va eu ev su sv'
      · exact hP.cong (fun k hk => hσ k (by revert k; decide) (by revert k; decide) (by revert k; decide)) (fun k hk => x3 k (by revert k; decide) (by revert k; decide) (by revert k; decide))
      · exact hQ.kv (hσ 15 (by decide) (by decide) (by decide)) (fun k hk => x3 k (by revert k; decide) (by revert k; decide) (by revert k; decide)) (kvv 1 (by decide))
      · exact hT.kv (hσ 8 (by decide) (by decide) (by decide)) (fun k hk => x3 k (by revert k; decide) (by revert k; decide) (by revert k; decide)) (kvv 2 (by decide))
      · exact hG.kv (fun k hk => hσ k (by revert k; decide) (by revert k; decide) (by revert k; decide)) (fun k hk => x3 k (by revert k; decide) (by revert k; decide) (by revert k; decide)) (kvv 3 (by decide))
      · exact hR.cong (hσ 16 (by decide) (by decide) (by decide)) (fun k hk => x3 k (by revert k; decide) (by revert k; decide) (by revert k; decide)) (by rw [hscX]) (by rw [hscM])
      · unfold rS; rw [hscX, hscM]; exact hS
