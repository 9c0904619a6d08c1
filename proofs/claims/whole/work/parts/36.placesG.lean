/-! PURE: a place is given back, on both sides -/
theorem pairG_r {σ ρ : KS} {p : Nat} (h : rB σ ρ) (hp : p < 512) (hu : ρ.1 3 p = 1) (hkd : ρ.1 2 (p / 4) = nI 1) : ∃ (σ' ρ' : KS), m_X1r_givePlace (nI p) σ = some (0, σ') ∧ m_X3_giveSmall (nI p) ρ = some (0, ρ') ∧
    sam [4, 5, 6] σ σ' ∧ sam [1, 2, 3] ρ ρ' ∧ ρ'.1 3 = upd (ρ.1 3) p 0 ∧ rB σ' ρ' ∧
    (((∃ i, i < 4 ∧ 4 * (p / 4) + i ≠ p ∧ ρ.1 3 (4 * (p / 4) + i) = 1) ∧ ρ'.1 2 = ρ.1 2) ∨ ((∀ i, i < 4 → 4 * (p / 4) + i ≠ p → ρ.1 3 (4 * (p / 4) + i) = 0) ∧ ∀ j, ρ'.1 2 j = if j = p / 4 then 0 else ρ.1 2 j)) := by
  obtain ⟨hB, hC, hP1, hP2, hO⟩ := h
  obtain ⟨f, hfe⟩ : ∃ f, f = p / 4 := ⟨_, rfl⟩
  rw [← hfe] at hkd ⊢
  have hf : f < 128 := by omega
  obtain ⟨i, hie⟩ : ∃ i, i = p % 4 := ⟨_, rfl⟩
  have hi : i < 4 := by omega
  have hpe : 4 * f + i = p := by omega
  obtain ⟨a, b1, b2, b3, b4⟩ := hP1 f hf
  have hne : a ≠ 0 := b3.mp hkd
  have hbit : a / 2 ^ i % 2 = 1 := by
    have := b4 hne i hi
    rw [hpe, hu] at this
    rcases (show a / 2 ^ i % 2 = 0 ∨ a / 2 ^ i % 2 = 1 by omega) with q | q
    · rw [q] at this; exact absurd this (by decide)
    · exact q
  obtain ⟨d1, d2⟩ := bit_r a b1 i hi hbit
  have hus : ∀ j, j < 4 → upd (ρ.1 3) p 0 (4 * f + j) = nI ((a - 2 ^ i) / 2 ^ j % 2) := by
    intro j hj
    rw [d2 j hj]
    by_cases e : j = i
    · subst e; rw [if_pos rfl, hpe, upd_eq]; rfl
    · rw [if_neg e, upd_ne (by omega), b4 hne j hj]
  have h01 : ∀ j, j < 4 → (wr ρ 3 (nI p) 0).1 3 (4 * f + j) = 0 ∨ (wr ρ 3 (nI p) 0).1 3 (4 * f + j) = 1 := by
    intro j hj
    rw [wr_at (by omega), hus j hj]
    rcases (show (a - 2 ^ i) / 2 ^ j % 2 = 0 ∨ (a - 2 ^ i) / 2 ^ j % 2 = 1 by omega) with q | q
    · left; rw [q]; rfl
    · right; rw [q]; rfl
  have hdiv : nI p / 4 = nI f := by rw [q4, pk_div (by omega) (by decide) (by decide), hfe]
  have hrem : nI p - nI p / 4 * 4 = nI i := by rw [q4, pk_rem (by omega) (by decide) (by decide), hie]
  have hcn : cn (fun j => (wr ρ 3 (nI p) 0).1 3 (4 * f + j) = 1) 4 = 0 ↔ a - 2 ^ i = 0 := by
    rw [← bit_0 _ d1]
    constructor
    · intro hc j hj
      rcases (show (a - 2 ^ i) / 2 ^ j % 2 = 0 ∨ (a - 2 ^ i) / 2 ^ j % 2 = 1 by omega) with q | q
      · exact q
      · have : 0 < cn (fun j => (wr ρ 3 (nI p) 0).1 3 (4 * f + j) = 1) 4 := cn_pos hj (by rw [wr_at (by omega), hus j hj, q]; rfl)
        omega
    · intro hz
      refine cn_0 fun j hj => ?_
      rw [wr_at (by omega), hus j hj, hz j hj]
      decide
  have hcle := cn_le (P := fun j => (wr ρ 3 (nI p) 0).1 3 (4 * f + j) = 1) (n := 4)
  -- the models up to the question whether the frame is empty
  have mX : m_X1r_givePlace (nI p) σ = if a - 2 ^ i = 0 then bnd (m_X0_giveBlock (nI f) (nI 0) (wr σ 6 (nI f) (nI (a - 2 ^ i)))) (fun _ σ_47 => some (0, σ_47)) else some (0, wr σ 6 (nI f) (nI (a - 2 ^ i))) := by
    unfold m_X1r_givePlace
    rw [hrem, hdiv, if_neg (show ¬ nI p < 0 from nI_nlt (b := 0) (by omega) (by omega)), bnd_eq (isFrame_t hf), if_neg (by decide), chk_nI hf (by decide), chk_nI hf (by decide), chk_nI hf (by decide), rd_nI (σ := σ) (by omega), b2, bit_c a b1 i hi hbit, rd_nI (by omega), wr_at (by omega), upd_eq]
    by_cases e : a - 2 ^ i = 0
    · rw [if_pos e, if_pos ((nI_01 (by omega)).mpr e)]; rfl
    · rw [if_neg e, if_neg (fun q => e ((nI_01 (by omega)).mp q))]
  have mM : m_X3_giveSmall (nI p) ρ = if a - 2 ^ i = 0 then bnd (m_X3_giveBlock (nI f) (nI 0) (wr ρ 3 (nI p) 0)) (fun _ σ_22 => some (0, σ_22)) else some (0, wr ρ 3 (nI p) 0) := by
    unfold m_X3_giveSmall
    rw [chk_nI hp (by decide), zchk_0, hdiv, bnd_eq (smallIn_t hf h01)]
    by_cases e : a - 2 ^ i = 0
    · rw [if_pos e, hcn.mpr e, if_pos (show nI 0 = 0 from rfl)]; rfl
    · rw [if_neg e, if_neg (fun q => e (hcn.mp ((nI_01 (by omega)).mp q)))]
  have hz1 : zs (wr ρ 3 (nI p) 0) = zs ρ := by funext j; unfold zs; rw [wr_ne (by decide)]
  have hkd0 : ¬ ρ.1 2 f = 0 := by rw [hkd]; decide
  by_cases e : a - 2 ^ i = 0
  · -- the frame goes, too
    rw [if_pos e] at mX mM
    have hz : zm (fun j => zs ρ j ∨ j = f) 0 f = zs ρ := by
      funext j
      refine propext ?_
      unfold zm
      rw [sb0]
      constructor
      · intro q; exact q.1.resolve_right q.2
      · intro q; exact ⟨Or.inl q, fun w => by subst w; exact hkd0 q.2⟩
    have haf : af (fun j => zs ρ j ∨ j = f) 0 f := fun j hj => Or.inr (sb0.mp hj)
    obtain ⟨σ1, r1, s1, c1⟩ := give_X (k := 0) (f := f) (Z := fun j => zs ρ j ∨ j = f) (σ := wr σ 6 (nI f) (nI (a - 2 ^ i))) (by decide) hf (Nat.mod_one f) haf (by rw [hz]; exact hB.same (wr_ne (by decide)) (wr_ne (by decide)))
    obtain ⟨ρ1, r2, s2, c2, k2⟩ := give_M (k := 0) (f := f) (Z := fun j => zs ρ j ∨ j = f) (σ := wr ρ 3 (nI p) 0) (by decide) hf (Nat.mod_one f) haf (by rw [hz, wr_ne (by decide)]; exact hC)
    have k2' : ∀ j, ρ1.1 2 j = if j = f then 0 else ρ.1 2 j := by
      intro j
      rw [k2 j, wr_ne (by decide)]
      by_cases ej : j = f
      · rw [if_pos (by omega), if_pos ej]
      · rw [if_neg (by omega), if_neg ej]
    have hzs : zs ρ1 = fun j => zs ρ j ∨ j = f := by
      funext j
      refine propext ?_
      show (j < 128 ∧ ρ1.1 2 j = 0) ↔ ((j < 128 ∧ ρ.1 2 j = 0) ∨ j = f)
      rw [k2' j]
      by_cases ej : j = f
      · subst ej; rw [if_pos rfl]; exact ⟨fun _ => Or.inr rfl, fun _ => ⟨hf, rfl⟩⟩
      · rw [if_neg ej]; exact ⟨Or.inl, fun q => q.resolve_right ej⟩
    have e3 : ρ1.1 3 = upd (ρ.1 3) p 0 := by rw [s2.2 3 (by decide), wr_at (by omega)]
    have hall : ∀ j, j < 4 → upd (ρ.1 3) p 0 (4 * f + j) = 0 := fun j hj => by rw [hus j hj, e, Nat.zero_div]; rfl
    refine ⟨σ1, ρ1, by rw [mX, bnd_eq r1], by rw [mM, bnd_eq r2], (sam.wr (by decide)).trans (s1.mono (by decide)), (sam.wr (by decide)).trans (s2.mono (by decide)), e3, ⟨?_, ?_, ?_, ?_, ?_⟩, Or.inr ⟨fun j hj hjp => ?_, k2'⟩⟩
    · rw [hzs]; exact c1
    · rw [hzs]; exact c2
    · intro g hg
      by_cases eg : g = f
      · subst eg
        refine ⟨0, by decide, ?_, ?_, fun w => absurd rfl w⟩
        · rw [s1.2 6 (by decide), wr_at (by omega), upd_eq, e]
        · rw [k2' g, if_pos rfl]; exact ⟨fun q => absurd q (by decide), fun q => absurd rfl q⟩
      · obtain ⟨a', b1', b2', b3', b4'⟩ := hP1 g hg
        exact ⟨a', b1', by rw [s1.2 6 (by decide), wr_at (by omega), upd_ne eg, b2'], by rw [k2' g, if_neg eg]; exact b3', fun w j hj => by rw [e3, upd_ne (by omega)]; exact b4' w j hj⟩
    · intro g hg
      obtain ⟨a', b1', b2', b3', b4'⟩ := hP2 g hg
      by_cases eg : g = f
      · subst eg
        have ha0 : a' = 0 := by
          rcases Nat.eq_zero_or_pos a' with q | q
          · exact q
          · have := b3'.mpr (by omega); rw [hkd] at this; exact absurd this (by decide)
        refine ⟨a', b1', by rw [s1.2 7 (by decide), wr_ne (by decide), b2'], ?_, fun w => absurd ha0 w⟩
        rw [k2' g, if_pos rfl]
        exact ⟨fun q => absurd q (by decide), fun q => absurd ha0 q⟩
      · exact ⟨a', b1', by rw [s1.2 7 (by decide), wr_ne (by decide), b2'], by rw [k2' g, if_neg eg]; exact b3', fun w j hj => by rw [e3, upd_ne (by omega)]; exact b4' w j hj⟩
    · intro g hg n1 n2 j hj
      rw [e3]
      rw [k2' g] at n1 n2
      by_cases eg : g = f
      · subst eg; exact hall j hj
      · rw [if_neg eg] at n1 n2
        rw [upd_ne (by omega)]
        exact hO g hg n1 n2 j hj
    · have := hall j hj
      rw [upd_ne hjp] at this
      exact this
  · -- the frame stays
    rw [if_neg e] at mX mM
    refine ⟨_, _, mX, mM, sam.wr (by decide), sam.wr (by decide), wr_at (by omega), ⟨?_, ?_, ?_, ?_, ?_⟩, Or.inl ⟨?_, wr_ne (by decide)⟩⟩
    · rw [hz1]; exact hB.same (wr_ne (by decide)) (wr_ne (by decide))
    · rw [hz1, wr_ne (by decide)]; exact hC
    · intro g hg
      by_cases eg : g = f
      · subst eg
        exact ⟨a - 2 ^ i, d1, by rw [wr_at (by omega), upd_eq], by rw [wr_ne (by decide)]; exact ⟨fun _ => e, fun _ => hkd⟩, fun _ j hj => by rw [wr_at (by omega)]; exact hus j hj⟩
      · obtain ⟨a', b1', b2', b3', b4'⟩ := hP1 g hg
        exact ⟨a', b1', by rw [wr_at (by omega), upd_ne eg, b2'], by rw [wr_ne (by decide)]; exact b3', fun w j hj => by rw [wr_at (by omega), upd_ne (by omega)]; exact b4' w j hj⟩
    · intro g hg
      obtain ⟨a', b1', b2', b3', b4'⟩ := hP2 g hg
      refine ⟨a', b1', by rw [wr_ne (by decide), b2'], by rw [wr_ne (by decide)]; exact b3', fun w j hj => ?_⟩
      have hgk := b3'.mpr w
      rw [wr_at (by omega), upd_ne (by
        intro q
        have : g = f := by omega
        subst this
        rw [hkd] at hgk
        exact absurd hgk (by decide))]
      exact b4' w j hj
    · intro g hg n1 n2 j hj
      rw [wr_ne (by decide)] at n1 n2
      rw [wr_at (by omega), upd_ne (by
        intro w
        have : g = f := by omega
        subst this
        first | exact n1 hkd | exact n2 hkd)]
      exact hO g hg n1 n2 j hj
    · have hex : ¬ ∀ j, j < 4 → (a - 2 ^ i) / 2 ^ j % 2 = 0 := fun q => e ((bit_0 _ d1).mp q)
      have : ∃ j, j < 4 ∧ (a - 2 ^ i) / 2 ^ j % 2 = 1 := by
        rcases (show (a - 2 ^ i) / 2 ^ 0 % 2 = 1 ∨ (a - 2 ^ i) / 2 ^ 1 % 2 = 1 ∨ (a - 2 ^ i) / 2 ^ 2 % 2 = 1 ∨ (a - 2 ^ i) / 2 ^ 3 % 2 = 1 from by
          refine Classical.byContradiction fun w => hex fun j hj => ?_
          rcases (show j = 0 ∨ j = 1 ∨ j = 2 ∨ j = 3 by omega) with rfl | rfl | rfl | rfl <;> omega) with q | q | q | q
        · exact ⟨0, by decide, q⟩
        · exact ⟨1, by decide, q⟩
        · exact ⟨2, by decide, q⟩
        · exact ⟨3, by decide, q⟩
      obtain ⟨j, hj, hb⟩ := this
      have hup := hus j hj
      rw [hb] at hup
      have hjp : 4 * f + j ≠ p := by
        intro w
        rw [w, upd_eq] at hup
        exact absurd hup (by decide)
      refine ⟨j, hj, hjp, ?_⟩
      rw [upd_ne hjp] at hup
      exact hup
theorem pairG_t {σ ρ : KS} {p : Nat} (h : rB σ ρ) (hp : p < 512) (hu : ρ.1 3 p = 1) (hkd : ρ.1 2 (p / 4) = nI 2) : ∃ (σ' ρ' : KS), m_X1t_givePlace (nI p) σ = some (0, σ') ∧ m_X3_giveSmall (nI p) ρ = some (0, ρ') ∧
    sam [4, 5, 7] σ σ' ∧ sam [1, 2, 3] ρ ρ' ∧ ρ'.1 3 = upd (ρ.1 3) p 0 ∧ rB σ' ρ' ∧
    (((∃ i, i < 4 ∧ 4 * (p / 4) + i ≠ p ∧ ρ.1 3 (4 * (p / 4) + i) = 1) ∧ ρ'.1 2 = ρ.1 2) ∨ ((∀ i, i < 4 → 4 * (p / 4) + i ≠ p → ρ.1 3 (4 * (p / 4) + i) = 0) ∧ ∀ j, ρ'.1 2 j = if j = p / 4 then 0 else ρ.1 2 j)) := by
  obtain ⟨hB, hC, hP1, hP2, hO⟩ := h
  obtain ⟨f, hfe⟩ : ∃ f, f = p / 4 := ⟨_, rfl⟩
  rw [← hfe] at hkd ⊢
  have hf : f < 128 := by omega
  obtain ⟨i, hie⟩ : ∃ i, i = p % 4 := ⟨_, rfl⟩
  have hi : i < 4 := by omega
  have hpe : 4 * f + i = p := by omega
  obtain ⟨a, b1, b2, b3, b4⟩ := hP2 f hf
  have hne : a ≠ 0 := b3.mp hkd
  have hbit : a / 2 ^ i % 2 = 1 := by
    have := b4 hne i hi
    rw [hpe, hu] at this
    rcases (show a / 2 ^ i % 2 = 0 ∨ a / 2 ^ i % 2 = 1 by omega) with q | q
    · rw [q] at this; exact absurd this (by decide)
    · exact q
  obtain ⟨d1, d2⟩ := bit_r a b1 i hi hbit
  have hus : ∀ j, j < 4 → upd (ρ.1 3) p 0 (4 * f + j) = nI ((a - 2 ^ i) / 2 ^ j % 2) := by
    intro j hj
    rw [d2 j hj]
    by_cases e : j = i
    · subst e; rw [if_pos rfl, hpe, upd_eq]; rfl
    · rw [if_neg e, upd_ne (by omega), b4 hne j hj]
  have h01 : ∀ j, j < 4 → (wr ρ 3 (nI p) 0).1 3 (4 * f + j) = 0 ∨ (wr ρ 3 (nI p) 0).1 3 (4 * f + j) = 1 := by
    intro j hj
    rw [wr_at (by omega), hus j hj]
    rcases (show (a - 2 ^ i) / 2 ^ j % 2 = 0 ∨ (a - 2 ^ i) / 2 ^ j % 2 = 1 by omega) with q | q
    · left; rw [q]; rfl
    · right; rw [q]; rfl
  have hdiv : nI p / 4 = nI f := by rw [q4, pk_div (by omega) (by decide) (by decide), hfe]
  have hrem : nI p - nI p / 4 * 4 = nI i := by rw [q4, pk_rem (by omega) (by decide) (by decide), hie]
  have hcn : cn (fun j => (wr ρ 3 (nI p) 0).1 3 (4 * f + j) = 1) 4 = 0 ↔ a - 2 ^ i = 0 := by
    rw [← bit_0 _ d1]
    constructor
    · intro hc j hj
      rcases (show (a - 2 ^ i) / 2 ^ j % 2 = 0 ∨ (a - 2 ^ i) / 2 ^ j % 2 = 1 by omega) with q | q
      · exact q
      · have : 0 < cn (fun j => (wr ρ 3 (nI p) 0).1 3 (4 * f + j) = 1) 4 := cn_pos hj (by rw [wr_at (by omega), hus j hj, q]; rfl)
        omega
    · intro hz
      refine cn_0 fun j hj => ?_
      rw [wr_at (by omega), hus j hj, hz j hj]
      decide
  have hcle := cn_le (P := fun j => (wr ρ 3 (nI p) 0).1 3 (4 * f + j) = 1) (n := 4)
  -- the models up to the question whether the frame is empty
  have mX : m_X1t_givePlace (nI p) σ = if a - 2 ^ i = 0 then bnd (m_X0_giveBlock (nI f) (nI 0) (wr σ 7 (nI f) (nI (a - 2 ^ i)))) (fun _ σ_47 => some (0, σ_47)) else some (0, wr σ 7 (nI f) (nI (a - 2 ^ i))) := by
    unfold m_X1t_givePlace
    rw [hrem, hdiv, if_neg (show ¬ nI p < 0 from nI_nlt (b := 0) (by omega) (by omega)), bnd_eq (isFrame_t hf), if_neg (by decide), chk_nI hf (by decide), chk_nI hf (by decide), chk_nI hf (by decide), rd_nI (σ := σ) (by omega), b2, bit_c a b1 i hi hbit, rd_nI (by omega), wr_at (by omega), upd_eq]
    by_cases e : a - 2 ^ i = 0
    · rw [if_pos e, if_pos ((nI_01 (by omega)).mpr e)]; rfl
    · rw [if_neg e, if_neg (fun q => e ((nI_01 (by omega)).mp q))]
  have mM : m_X3_giveSmall (nI p) ρ = if a - 2 ^ i = 0 then bnd (m_X3_giveBlock (nI f) (nI 0) (wr ρ 3 (nI p) 0)) (fun _ σ_22 => some (0, σ_22)) else some (0, wr ρ 3 (nI p) 0) := by
    unfold m_X3_giveSmall
    rw [chk_nI hp (by decide), zchk_0, hdiv, bnd_eq (smallIn_t hf h01)]
    by_cases e : a - 2 ^ i = 0
    · rw [if_pos e, hcn.mpr e, if_pos (show nI 0 = 0 from rfl)]; rfl
    · rw [if_neg e, if_neg (fun q => e (hcn.mp ((nI_01 (by omega)).mp q)))]
  have hz1 : zs (wr ρ 3 (nI p) 0) = zs ρ := by funext j; unfold zs; rw [wr_ne (by decide)]
  have hkd0 : ¬ ρ.1 2 f = 0 := by rw [hkd]; decide
  by_cases e : a - 2 ^ i = 0
  · -- the frame goes, too
    rw [if_pos e] at mX mM
    have hz : zm (fun j => zs ρ j ∨ j = f) 0 f = zs ρ := by
      funext j
      refine propext ?_
      unfold zm
      rw [sb0]
      constructor
      · intro q; exact q.1.resolve_right q.2
      · intro q; exact ⟨Or.inl q, fun w => by subst w; exact hkd0 q.2⟩
    have haf : af (fun j => zs ρ j ∨ j = f) 0 f := fun j hj => Or.inr (sb0.mp hj)
    obtain ⟨σ1, r1, s1, c1⟩ := give_X (k := 0) (f := f) (Z := fun j => zs ρ j ∨ j = f) (σ := wr σ 7 (nI f) (nI (a - 2 ^ i))) (by decide) hf (Nat.mod_one f) haf (by rw [hz]; exact hB.same (wr_ne (by decide)) (wr_ne (by decide)))
    obtain ⟨ρ1, r2, s2, c2, k2⟩ := give_M (k := 0) (f := f) (Z := fun j => zs ρ j ∨ j = f) (σ := wr ρ 3 (nI p) 0) (by decide) hf (Nat.mod_one f) haf (by rw [hz, wr_ne (by decide)]; exact hC)
    have k2' : ∀ j, ρ1.1 2 j = if j = f then 0 else ρ.1 2 j := by
      intro j
      rw [k2 j, wr_ne (by decide)]
      by_cases ej : j = f
      · rw [if_pos (by omega), if_pos ej]
      · rw [if_neg (by omega), if_neg ej]
    have hzs : zs ρ1 = fun j => zs ρ j ∨ j = f := by
      funext j
      refine propext ?_
      show (j < 128 ∧ ρ1.1 2 j = 0) ↔ ((j < 128 ∧ ρ.1 2 j = 0) ∨ j = f)
      rw [k2' j]
      by_cases ej : j = f
      · subst ej; rw [if_pos rfl]; exact ⟨fun _ => Or.inr rfl, fun _ => ⟨hf, rfl⟩⟩
      · rw [if_neg ej]; exact ⟨Or.inl, fun q => q.resolve_right ej⟩
    have e3 : ρ1.1 3 = upd (ρ.1 3) p 0 := by rw [s2.2 3 (by decide), wr_at (by omega)]
    have hall : ∀ j, j < 4 → upd (ρ.1 3) p 0 (4 * f + j) = 0 := fun j hj => by rw [hus j hj, e, Nat.zero_div]; rfl
    refine ⟨σ1, ρ1, by rw [mX, bnd_eq r1], by rw [mM, bnd_eq r2], (sam.wr (by decide)).trans (s1.mono (by decide)), (sam.wr (by decide)).trans (s2.mono (by decide)), e3, ⟨?_, ?_, ?_, ?_, ?_⟩, Or.inr ⟨fun j hj hjp => ?_, k2'⟩⟩
    · rw [hzs]; exact c1
    · rw [hzs]; exact c2
    · intro g hg
      obtain ⟨a', b1', b2', b3', b4'⟩ := hP1 g hg
      by_cases eg : g = f
      · subst eg
        have ha0 : a' = 0 := by
          rcases Nat.eq_zero_or_pos a' with q | q
          · exact q
          · have := b3'.mpr (by omega); rw [hkd] at this; exact absurd this (by decide)
        refine ⟨a', b1', by rw [s1.2 6 (by decide), wr_ne (by decide), b2'], ?_, fun w => absurd ha0 w⟩
        rw [k2' g, if_pos rfl]
        exact ⟨fun q => absurd q (by decide), fun q => absurd ha0 q⟩
      · exact ⟨a', b1', by rw [s1.2 6 (by decide), wr_ne (by decide), b2'], by rw [k2' g, if_neg eg]; exact b3', fun w j hj => by rw [e3, upd_ne (by omega)]; exact b4' w j hj⟩
    · intro g hg
      by_cases eg : g = f
      · subst eg
        refine ⟨0, by decide, ?_, ?_, fun w => absurd rfl w⟩
        · rw [s1.2 7 (by decide), wr_at (by omega), upd_eq, e]
        · rw [k2' g, if_pos rfl]; exact ⟨fun q => absurd q (by decide), fun q => absurd rfl q⟩
      · obtain ⟨a', b1', b2', b3', b4'⟩ := hP2 g hg
        exact ⟨a', b1', by rw [s1.2 7 (by decide), wr_at (by omega), upd_ne eg, b2'], by rw [k2' g, if_neg eg]; exact b3', fun w j hj => by rw [e3, upd_ne (by omega)]; exact b4' w j hj⟩
    · intro g hg n1 n2 j hj
      rw [e3]
      rw [k2' g] at n1 n2
      by_cases eg : g = f
      · subst eg; exact hall j hj
      · rw [if_neg eg] at n1 n2
        rw [upd_ne (by omega)]
        exact hO g hg n1 n2 j hj
    · have := hall j hj
      rw [upd_ne hjp] at this
      exact this
  · -- the frame stays
    rw [if_neg e] at mX mM
    refine ⟨_, _, mX, mM, sam.wr (by decide), sam.wr (by decide), wr_at (by omega), ⟨?_, ?_, ?_, ?_, ?_⟩, Or.inl ⟨?_, wr_ne (by decide)⟩⟩
    · rw [hz1]; exact hB.same (wr_ne (by decide)) (wr_ne (by decide))
    · rw [hz1, wr_ne (by decide)]; exact hC
    · intro g hg
      obtain ⟨a', b1', b2', b3', b4'⟩ := hP1 g hg
      refine ⟨a', b1', by rw [wr_ne (by decide), b2'], by rw [wr_ne (by decide)]; exact b3', fun w j hj => ?_⟩
      have hgk := b3'.mpr w
      rw [wr_at (by omega), upd_ne (by
        intro q
        have : g = f := by omega
        subst this
        rw [hkd] at hgk
        exact absurd hgk (by decide))]
      exact b4' w j hj
    · intro g hg
      by_cases eg : g = f
      · subst eg
        exact ⟨a - 2 ^ i, d1, by rw [wr_at (by omega), upd_eq], by rw [wr_ne (by decide)]; exact ⟨fun _ => e, fun _ => hkd⟩, fun _ j hj => by rw [wr_at (by omega)]; exact hus j hj⟩
      · obtain ⟨a', b1', b2', b3', b4'⟩ := hP2 g hg
        exact ⟨a', b1', by rw [wr_at (by omega), upd_ne eg, b2'], by rw [wr_ne (by decide)]; exact b3', fun w j hj => by rw [wr_at (by omega), upd_ne (by omega)]; exact b4' w j hj⟩
    · intro g hg n1 n2 j hj
      rw [wr_ne (by decide)] at n1 n2
      rw [wr_at (by omega), upd_ne (by
        intro w
        have : g = f := by omega
        subst this
        first | exact n1 hkd | exact n2 hkd)]
      exact hO g hg n1 n2 j hj
    · have hex : ¬ ∀ j, j < 4 → (a - 2 ^ i) / 2 ^ j % 2 = 0 := fun q => e ((bit_0 _ d1).mp q)
      have : ∃ j, j < 4 ∧ (a - 2 ^ i) / 2 ^ j % 2 = 1 := by
        rcases (show (a - 2 ^ i) / 2 ^ 0 % 2 = 1 ∨ (a - 2 ^ i) / 2 ^ 1 % 2 = 1 ∨ (a - 2 ^ i) / 2 ^ 2 % 2 = 1 ∨ (a - 2 ^ i) / 2 ^ 3 % 2 = 1 from by
          refine Classical.byContradiction fun w => hex fun j hj => ?_
          rcases (show j = 0 ∨ j = 1 ∨ j = 2 ∨ j = 3 by omega) with rfl | rfl | rfl | rfl <;> omega) with q | q | q | q
        · exact ⟨0, by decide, q⟩
        · exact ⟨1, by decide, q⟩
        · exact ⟨2, by decide, q⟩
        · exact ⟨3, by decide, q⟩
      obtain ⟨j, hj, hb⟩ := this
      have hup := hus j hj
      rw [hb] at hup
      have hjp : 4 * f + j ≠ p := by
        intro w
        rw [w, upd_eq] at hup
        exact absurd hup (by decide)
      refine ⟨j, hj, hjp, ?_⟩
      rw [upd_ne hjp] at hup
      exact hup
