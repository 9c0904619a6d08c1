/-! PURE: Rel without the row; places that come and go; a new process; one that vanishes -/
def Rl (σ ρ : KS) : Prop := rB σ ρ ∧ rD ρ ∧ rK σ ρ ∧ rP σ ρ ∧ rQ σ ρ ∧ rT σ ρ ∧ rG σ ρ ∧ rS σ ρ
theorem Rel.l {σ ρ : KS} (h : Rel σ ρ) : Rl σ ρ := ⟨h.1, h.2.1, h.2.2.1, h.2.2.2.1, h.2.2.2.2.1, h.2.2.2.2.2.1, h.2.2.2.2.2.2.1, h.2.2.2.2.2.2.2.2⟩
theorem Rl.rel {σ ρ : KS} (h : Rl σ ρ) (hR : rR σ ρ) : Rel σ ρ := ⟨h.1, h.2.1, h.2.2.1, h.2.2.2.1, h.2.2.2.2.1, h.2.2.2.2.2.1, h.2.2.2.2.2.2.1, hR, h.2.2.2.2.2.2.2⟩
theorem Rl.frame {σ ρ : KS} (h : Rl σ ρ) {p k : Nat} (hp : p < 16) (hl : ρ.1 6 p = 1) (hk : k < bk ρ p) : m_X2_frameOfPage (nI p) (nI k) σ = some (nI (pgN ρ p k), σ) := by
  obtain ⟨-, -, -, hP, hQ, hT, hG, -⟩ := h
  obtain ⟨-, -, -, -, b1, -, -, -⟩ := hP p hp
  obtain ⟨a1, -, a3, -, -⟩ := hQ.1 p hp (by rw [hl]; decide)
  obtain ⟨t1, -, -, -, t5⟩ := hT.1 p (k / 16) hp (by omega)
  obtain ⟨g1, -, g3⟩ := hG.1 p k hp hk
  unfold m_X2_frameOfPage
  rw [bnd_eq (hasPage_X hP hp hl (nI k)), if_neg (show ¬ nI k < 0 from nI_nlt (b := 0) (by omega) (by omega)), if_neg (show ¬ nI (bk ρ p) ≤ nI k from nI_ge hk (by omega)), if_neg (by decide), bnd_eq (pageIndex_t hp (by omega) a3 a1 t5), bnd_eq (wordAt_t (by omega)), g3]
theorem Rl.u {σ ρ : KS} (h : Rl σ ρ) : uOK ρ := by
  intro p hp
  obtain ⟨-, -, -, p4, p5, p6, -, -⟩ := h.2.2.2.1 p hp
  exact ⟨p4, p5, p6, fun k hk => ⟨(h.2.2.2.2.2.2.1.1 p k hp hk).2.1, (h.2.2.2.2.2.2.1.1 p k hp hk).1⟩⟩
/-- used places stay, but those of ex -/
def keepP (ex : Nat → Prop) (ρ ρ' : KS) : Prop := ∀ r, r < 512 → ¬ ex r → ∀ s, s = 1 ∨ s = 2 → ρ.1 3 r = 1 → ρ.1 2 (r / 4) = nI s → ρ'.1 3 r = 1 ∧ ρ'.1 2 (r / 4) = nI s
theorem rQ.keep {ex : Nat → Prop} {σ ρ σ' ρ' : KS} (h : rQ σ ρ) (a : σ'.1 15 = σ.1 15) (b : ∀ k ∈ [6, 10], ρ'.1 k = ρ.1 k) (hk : keepP ex ρ ρ') (hx : ∀ p, p < 16 → ¬ ρ.1 6 p = 0 → ¬ ex (rcN ρ p)) : rQ σ' ρ' := by
  have b3 := b 6 (by decide); have b4 := b 10 (by decide)
  unfold rQ rcN at *
  rw [a, b3, b4]
  refine ⟨fun p hp hn => ?_, h.2⟩
  obtain ⟨h1, h2, h3, h4, h5⟩ := h.1 p hp hn
  have := hk _ h1 (hx p hp hn) 1 (Or.inl rfl) h4 h5
  exact ⟨h1, h2, h3, this.1, this.2⟩
theorem rT.keep {ex : Nat → Prop} {σ ρ σ' ρ' : KS} (h : rT σ ρ) (a : σ'.1 8 = σ.1 8) (b : ∀ k ∈ [7, 10, 12], ρ'.1 k = ρ.1 k) (hk : keepP ex ρ ρ') (hx : ∀ p t, p < 16 → 16 * t < bk ρ p → ¬ ex (tbN ρ p t)) : rT σ' ρ' := by
  have b3 := b 7 (by decide); have b4 := b 10 (by decide); have b5 := b 12 (by decide)
  unfold rT rcN tbN bk at *
  rw [a, b3, b4, b5]
  refine ⟨fun p t hp ht => ?_, h.2⟩
  obtain ⟨h1, h2, h3, h4, h5⟩ := h.1 p t hp ht
  have := hk _ h1 (hx p t hp ht) 2 (Or.inr rfl) h3 h4
  exact ⟨h1, h2, this.1, this.2, h5⟩
/-- what a take of a place changes -/
theorem take_keep {ρ ρ' : KS} {s p : Nat} (hs : s = 1 ∨ s = 2) (hp : p < 512) (h0 : ρ.1 3 p = 0) (hk : ρ.1 2 (p / 4) = nI s ∨ ρ.1 2 (p / 4) = 0) (e2 : ρ'.1 2 = upd (ρ.1 2) (p / 4) (nI s)) (e3 : ρ'.1 3 = upd (ρ.1 3) p 1) :
    keepP (fun _ => False) ρ ρ' ∧ kv 3 ρ ρ' ∧ kv 4 ρ ρ' ∧ (rD ρ → rD ρ') ∧ ρ'.1 3 p = 1 ∧ ρ'.1 2 (p / 4) = nI s := by
  refine ⟨fun r hr _ v hv hu hkr => ?_, fun i hi => ?_, fun i hi => ?_, fun hD i hi => ?_, by rw [e3, upd_eq], by rw [e2, upd_eq]⟩
  · have hne : r ≠ p := fun q => by rw [q, h0] at hu; exact absurd hu (by decide)
    rw [e3, e2, upd_ne hne]
    refine ⟨hu, ?_⟩
    by_cases q : r / 4 = p / 4
    · rw [q, upd_eq]
      rw [q] at hkr
      rcases hk with w | w
      · rw [← w, hkr]
      · rw [w] at hkr; rcases hv with rfl | rfl <;> exact absurd hkr (by decide)
    · rw [upd_ne q]; exact hkr
  · rw [e2]
    by_cases q : i = p / 4
    · subst q
      rw [upd_eq]
      rcases hk with w | w <;> rw [w] <;> rcases hs with rfl | rfl <;> decide
    · rw [upd_ne q]
  · rw [e2]
    by_cases q : i = p / 4
    · subst q
      rw [upd_eq]
      rcases hk with w | w <;> rw [w] <;> rcases hs with rfl | rfl <;> decide
    · rw [upd_ne q]
  · rw [e2]
    by_cases q : i = p / 4
    · subst q; rw [upd_eq]; exact ⟨s, by omega, rfl⟩
    · rw [upd_ne q]; exact hD i hi
theorem give_keep {ρ ρ' : KS} {s p : Nat} (hs : s = 1 ∨ s = 2) (hp : p < 512) (hu : ρ.1 3 p = 1) (hkd : ρ.1 2 (p / 4) = nI s) (e3 : ρ'.1 3 = upd (ρ.1 3) p 0)
    (hc : ((∃ i, i < 4 ∧ 4 * (p / 4) + i ≠ p ∧ ρ.1 3 (4 * (p / 4) + i) = 1) ∧ ρ'.1 2 = ρ.1 2) ∨ ((∀ i, i < 4 → 4 * (p / 4) + i ≠ p → ρ.1 3 (4 * (p / 4) + i) = 0) ∧ ∀ j, ρ'.1 2 j = if j = p / 4 then 0 else ρ.1 2 j)) :
    keepP (fun r => r = p) ρ ρ' ∧ kv 3 ρ ρ' ∧ kv 4 ρ ρ' ∧ (rD ρ → rD ρ') := by
  have hd : ∀ v, v ≠ s → v < 5 → 0 < v → kv v ρ ρ' := by
    intro v hv h5 h0 i hi
    rcases hc with ⟨-, e2⟩ | ⟨-, e2⟩
    · rw [e2]
    · rw [e2 i]
      by_cases q : i = p / 4
      · subst q
        rw [if_pos rfl, hkd]
        exact ⟨fun w => absurd ((nI_eq (a := 0) (by decide) (by omega)).mp w) (by omega), fun w => absurd ((nI_eq (by omega) (by omega)).mp w) (fun z => hv z.symm)⟩
      · rw [if_neg q]
  refine ⟨fun r hr hne v hv hur hkr => ?_, hd 3 (by omega) (by decide) (by decide), hd 4 (by omega) (by decide) (by decide), fun hD i hi => ?_⟩
  · rw [e3, upd_ne hne]
    refine ⟨hur, ?_⟩
    rcases hc with ⟨-, e2⟩ | ⟨ho, e2⟩
    · rw [e2]; exact hkr
    · rw [e2]
      by_cases q : r / 4 = p / 4
      · have e : 4 * (p / 4) + r % 4 = r := by omega
        have := ho (r % 4) (by omega) (by rw [e]; exact hne)
        rw [e, hur] at this
        exact absurd this (by decide)
      · rw [if_neg q]; exact hkr
  · rcases hc with ⟨-, e2⟩ | ⟨-, e2⟩
    · rw [e2]; exact hD i hi
    · rw [e2 i]
      by_cases q : i = p / 4
      · rw [if_pos q]; exact ⟨0, by decide, rfl⟩
      · rw [if_neg q]; exact hD i hi
/-- Rl through a change of places alone -/
theorem Rl.places {ex : Nat → Prop} {σ ρ σ' ρ' : KS} {u : Nat} (h : Rl σ ρ) (hu : u = 6 ∨ u = 7) (sx : sam [4, 5, u] σ σ') (sm' : sam [1, 2, 3] ρ ρ') (hB : rB σ' ρ') (hk : keepP ex ρ ρ') (k3 : kv 3 ρ ρ') (k4 : kv 4 ρ ρ') (hd : rD ρ → rD ρ')
    (hxr : ∀ p, p < 16 → ¬ ρ.1 6 p = 0 → ¬ ex (rcN ρ p)) (hxt : ∀ p t, p < 16 → 16 * t < bk ρ p → ¬ ex (tbN ρ p t)) : Rl σ' ρ' := by
  obtain ⟨-, hD, hK, hP, hQ, hT, hG, hS⟩ := h
  have eX : ∀ k, 8 ≤ k → σ'.1 k = σ.1 k := fun k hk => sx.2 k (by intro q; rcases hu with rfl | rfl <;> (rcases List.mem_cons.mp q with q | q; omega; rcases List.mem_cons.mp q with q | q; omega; rcases List.mem_cons.mp q with q | q; omega; cases q))
  have eM : ∀ k, 4 ≤ k → ρ'.1 k = ρ.1 k := fun k hk => sm'.2 k (by intro q; rcases List.mem_cons.mp q with q | q; omega; rcases List.mem_cons.mp q with q | q; omega; rcases List.mem_cons.mp q with q | q; omega; cases q)
  refine ⟨hB, hd hD, hK.kv (eX 10 (by decide)) (eM 5 (by decide)) k4, hP.cong (fun k hk => eX k (by revert k; decide)) (fun k hk => eM k (by revert k; decide)), hQ.keep (eX 15 (by decide)) (fun k hk => eM k (by revert k; decide)) hk hxr, hT.keep (eX 8 (by decide)) (fun k hk => eM k (by revert k; decide)) hk hxt, hG.kv (fun k hk => eX k (by revert k; decide)) (fun k hk => eM k (by revert k; decide)) k3, ?_⟩
  unfold rS; rw [sx.1, sm'.1]; exact hS
/-- the least number that is not used -/
theorem unused_l {σ ρ : KS} (h : rP σ ρ) : ∀ (n i : Nat), i ≤ 16 → 16 < n + i → (∀ q, q < i → ¬ ρ.1 6 q = 0) →
    (∃ p, p < 16 ∧ ρ.1 6 p = 0 ∧ f_X2_leastUnused_2 n (nI i) σ = some (nI p, σ) ∧ f_X3_unusedNumber_2 n (nI i) ρ = some (nI p, ρ)) ∨ (f_X2_leastUnused_2 n (nI i) σ = some (-1, σ) ∧ f_X3_unusedNumber_2 n (nI i) ρ = some (-1, ρ)) := by
  intro n
  induction n with
  | zero => intro i a b; omega
  | succ n ih =>
    intro i a b hno
    rw [f_X2_leastUnused_2, f_X3_unusedNumber_2]
    by_cases e : i = 16
    · subst e
      right
      rw [if_pos (show (16 : Int32) ≤ nI 16 from nI_le (a := 16) (by omega) (by omega)), if_pos (show (16 : Int32) ≤ nI 16 from nI_le (a := 16) (by omega) (by omega))]
      exact ⟨rfl, rfl⟩
    · have hi : i < 16 := by omega
      rw [if_neg (show ¬ (16 : Int32) ≤ nI i from nI_ge (b := 16) hi (by omega)), if_neg (show ¬ (16 : Int32) ≤ nI i from nI_ge (b := 16) hi (by omega)), chk_nI hi (by decide), chk_nI hi (by decide), rd_nI (by omega), rd_nI (by omega), (h i hi).1, show nI i + 1 = nI (i + 1) from nI_1 i]
      by_cases h0 : ρ.1 6 i = 0
      · left; exact ⟨i, hi, h0, by rw [if_pos h0], by rw [if_pos h0]⟩
      · rw [if_neg h0, if_neg h0]
        exact ih (i + 1) (by omega) (by omega) (fun q hq => by
          rcases Nat.lt_or_ge q i with w | w
          · exact hno q w
          · rw [show q = i by omega]; exact h0)
theorem unused_t {σ ρ : KS} (h : rP σ ρ) : (∃ p, p < 16 ∧ ρ.1 6 p = 0 ∧ m_X2_leastUnused σ = some (nI p, σ) ∧ m_X3_unusedNumber ρ = some (nI p, ρ)) ∨ (m_X2_leastUnused σ = some (-1, σ) ∧ m_X3_unusedNumber ρ = some (-1, ρ)) :=
  unused_l h FU 0 (by omega) (by decide) (fun q hq => by omega)
/-- numbers of live processes stand apart in the row: there is room -/
theorem row_room {R : Nat → Int32} {n x : Nat} (hn : n ≤ 16) (hx : x < 16) (h1 : ∀ i, i < n → ∃ p, p < 16 ∧ p ≠ x ∧ R i = nI p) (h2 : ∀ i j, i < n → j < n → R i = R j → i = j) : n < 16 := by
  refine Classical.byContradiction fun hc => ?_
  have hn16 : n = 16 := by omega
  subst hn16
  -- the numbers are 16 different ones below 16 without x
  have key : ∀ m, m ≤ 16 → cn (fun p => ∃ i, i < m ∧ R i = nI p) 16 = m := by
    intro m
    induction m with
    | zero => intro _; exact cn_0 fun i _ ⟨j, hj, _⟩ => by omega
    | succ m ih =>
      intro hm
      obtain ⟨p, p1, p2, p3⟩ := h1 m (by omega)
      have := cn_one (P := fun p => ∃ i, i < m ∧ R i = nI p) (Q := fun p => ∃ i, i < m + 1 ∧ R i = nI p) (f := p) (n := 16) p1 (fun ⟨j, hj, e⟩ => by
        have := h2 j m (by omega) (by omega) (by rw [e, p3])
        omega) ⟨m, by omega, p3⟩ (fun q hq hne => by
        constructor
        · intro ⟨j, hj, e⟩; exact ⟨j, by omega, e⟩
        · intro ⟨j, hj, e⟩
          rcases Nat.lt_or_ge j m with w | w
          · exact ⟨j, w, e⟩
          · have : j = m := by omega
            subst this
            rw [p3] at e
            exact absurd ((nI_eq (by omega) (by omega)).mp e).symm hne)
      rw [this, ih (by omega)]
  have h16 := key 16 (Nat.le_refl _)
  have := cn_one (P := fun p => ∃ i, i < 16 ∧ R i = nI p) (Q := fun p => p = x ∨ ∃ i, i < 16 ∧ R i = nI p) (f := x) (n := 16) hx (fun ⟨j, hj, e⟩ => by
    obtain ⟨p, p1, p2, p3⟩ := h1 j hj
    rw [p3] at e
    exact p2 ((nI_eq (by omega) (by omega)).mp e)) (Or.inl rfl) (fun q hq hne => ⟨Or.inr, fun w => w.resolve_left hne⟩)
  have hle := cn_le (P := fun p => p = x ∨ ∃ i, i < 16 ∧ R i = nI p) (n := 16)
  omega
