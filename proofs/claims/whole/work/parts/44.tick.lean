/-! PURE: the row: tick -/
/-! the parts of Rel, where the rows that they speak of are the same -/
theorem rB.cong {σ ρ σ' ρ' : KS} (h : rB σ ρ) (a : ∀ k ∈ [4, 5, 6, 7], σ'.1 k = σ.1 k) (b : ∀ k ∈ [1, 2, 3], ρ'.1 k = ρ.1 k) : rB σ' ρ' := by
  have a4 := a 4 (by decide); have a5 := a 5 (by decide); have a6 := a 6 (by decide); have a7 := a 7 (by decide)
  have b1 := b 1 (by decide); have b2 := b 2 (by decide); have b3 := b 3 (by decide)
  unfold rB cB pS pO zs at *
  rw [a4, a5, a6, a7, b1, b2, b3]; exact h
theorem rD.cong {ρ ρ' : KS} (h : rD ρ) (b : ρ'.1 2 = ρ.1 2) : rD ρ' := by unfold rD at *; rw [b]; exact h
theorem rK.cong {σ ρ σ' ρ' : KS} (h : rK σ ρ) (a : σ'.1 10 = σ.1 10) (b : ∀ k ∈ [2, 5], ρ'.1 k = ρ.1 k) : rK σ' ρ' := by
  have b2 := b 2 (by decide); have b5 := b 5 (by decide)
  unfold rK at *
  rw [a, b2, b5]; exact h
theorem rP.cong {σ ρ σ' ρ' : KS} (h : rP σ ρ) (a : ∀ k ∈ [11, 12, 13, 14], σ'.1 k = σ.1 k) (b : ∀ k ∈ [6, 7, 8, 9], ρ'.1 k = ρ.1 k) : rP σ' ρ' := by
  have a1 := a 11 (by decide); have a2 := a 12 (by decide); have a3 := a 13 (by decide); have a4 := a 14 (by decide)
  have b1 := b 6 (by decide); have b2 := b 7 (by decide); have b3 := b 8 (by decide); have b4 := b 9 (by decide)
  unfold rP bk at *
  rw [a1, a2, a3, a4, b1, b2, b3, b4]; exact h
theorem rQ.cong {σ ρ σ' ρ' : KS} (h : rQ σ ρ) (a : σ'.1 15 = σ.1 15) (b : ∀ k ∈ [2, 3, 6, 10], ρ'.1 k = ρ.1 k) : rQ σ' ρ' := by
  have b1 := b 2 (by decide); have b2 := b 3 (by decide); have b3 := b 6 (by decide); have b4 := b 10 (by decide)
  unfold rQ rcN at *
  rw [a, b1, b2, b3, b4]; exact h
theorem rT.cong {σ ρ σ' ρ' : KS} (h : rT σ ρ) (a : σ'.1 8 = σ.1 8) (b : ∀ k ∈ [2, 3, 7, 10, 12], ρ'.1 k = ρ.1 k) : rT σ' ρ' := by
  have b1 := b 2 (by decide); have b2 := b 3 (by decide); have b3 := b 7 (by decide); have b4 := b 10 (by decide); have b5 := b 12 (by decide)
  unfold rT rcN tbN bk at *
  rw [a, b1, b2, b3, b4, b5]; exact h
theorem rG.cong {σ ρ σ' ρ' : KS} (h : rG σ ρ) (a : ∀ k ∈ [8, 9], σ'.1 k = σ.1 k) (b : ∀ k ∈ [2, 4, 7, 11, 12], ρ'.1 k = ρ.1 k) : rG σ' ρ' := by
  have a1 := a 8 (by decide); have a2 := a 9 (by decide)
  have b1 := b 2 (by decide); have b2 := b 4 (by decide); have b3 := b 7 (by decide); have b4 := b 11 (by decide); have b5 := b 12 (by decide)
  unfold rG usr pgN tbN bk at *
  rw [a1, a2, b1, b2, b3, b4, b5]; exact h
theorem rR.cong {σ ρ σ' ρ' : KS} (h : rR σ ρ) (a : σ'.1 16 = σ.1 16) (b : ∀ k ∈ [6, 13], ρ'.1 k = ρ.1 k) (c : σ'.2 0 = σ.2 0) (d : ρ'.2 0 = ρ.2 0) : rR σ' ρ' := by
  have b1 := b 6 (by decide); have b2 := b 13 (by decide)
  unfold rR at *
  rw [a, b1, b2, c, d]; exact h
def setA (σ : KS) (k : Nat) (f : Nat → Int32) : KS := (va_up σ.1 k f, σ.2)
theorem setA_at {σ : KS} {k : Nat} {f : Nat → Int32} : (setA σ k f).1 k = f := by simp [setA, va_up]
theorem setA_ne {σ : KS} {k j : Nat} {f : Nat → Int32} (h : j ≠ k) : (setA σ k f).1 j = σ.1 j := by simp [setA, va_up, h]
theorem setA_2 {σ : KS} {k : Nat} {f : Nat → Int32} : (setA σ k f).2 = σ.2 := rfl
theorem setA_wr {σ : KS} {k i : Nat} {f : Nat → Int32} {x : Int32} (h : i < 2 ^ 31) : wr (setA σ k f) k (nI i) x = setA σ k (upd f i x) := by
  unfold wr
  rw [nI_clamp h, setA_at]
  unfold setA
  refine Prod.ext ?_ rfl
  funext j
  simp only [va_up]
  split <;> rfl
theorem setA_self {σ : KS} {k : Nat} : setA σ k (σ.1 k) = σ := by
  unfold setA
  refine Prod.ext ?_ rfl
  funext j
  simp only [va_up]
  split
  · rename_i h; rw [h]
  · rfl
theorem wr_setA {σ : KS} {k i : Nat} {x : Int32} (h : i < 2 ^ 31) : wr σ k (nI i) x = setA σ k (upd (σ.1 k) i x) := by
  rw [← setA_wr h, setA_self]
theorem upd_self {f : Nat → Int32} {i : Nat} : upd f i (f i) = f := by
  funext j
  by_cases e : j = i
  · subst e; rw [upd_eq]
  · rw [upd_ne e]
/-- the places from j0 on move down, up to m -/
def shR (j0 m : Nat) (R : Nat → Int32) : Nat → Int32 := fun j => if j0 ≤ j ∧ j < m then R (j + 1) else R j
theorem shR_0 {j0 : Nat} {R : Nat → Int32} : shR j0 j0 R = R := by
  funext j; unfold shR; rw [if_neg (by omega)]
theorem shR_s {j0 i : Nat} {R : Nat → Int32} (h : j0 ≤ i) : upd (shR j0 i R) i (R (i + 1)) = shR j0 (i + 1) R := by
  funext j
  by_cases e : j = i
  · subst e; rw [upd_eq]; unfold shR; rw [if_pos (by omega)]
  · rw [upd_ne e]; unfold shR
    by_cases q : j0 ≤ j ∧ j < i
    · rw [if_pos q, if_pos (by omega)]
    · rw [if_neg q, if_neg (by omega)]
theorem leaveRow_2 {σ : KS} {x : Int32} {m j0 : Nat} {R : Nat → Int32} (hm : m ≤ 16) (hl : σ.2 0 = nI m) (hj : j0 < m) (hne : ∀ i, i < m → i ≠ j0 → ¬ R i = x) : ∀ (n i : Nat), j0 ≤ i → i + 1 ≤ m → m < n + (i + 1) →
    f_X2_leaveRow_4 n x (nI i) (nI (i + 1)) (setA σ 16 (shR j0 i R)) = some (0, sv (setA σ 16 (shR j0 (m - 1) R)) 0 (nI (m - 1))) := by
  intro n
  induction n with
  | zero => intro i a b c; omega
  | succ n ih =>
    intro i a b c
    rw [f_X2_leaveRow_4]
    unfold gv
    rw [setA_2, hl]
    by_cases e : i + 1 = m
    · rw [if_pos (nI_le (by omega) (by omega)), show i = m - 1 by omega]
    · have hr : (setA σ 16 (shR j0 i R)).1 16 (i + 1) = R (i + 1) := by rw [setA_at]; unfold shR; rw [if_neg (by omega)]
      rw [if_neg (nI_ge (by omega) (by omega)), chk_nI (by omega) (by decide), chk_nI (by omega) (by decide), chk_nI (by omega) (by decide), rd_nI (by omega), hr, if_neg (hne (i + 1) (by omega) (by omega)), setA_wr (by omega), shR_s a, show nI i + 1 = nI (i + 1) from nI_1 i, show nI (i + 1) + 1 = nI (i + 1 + 1) from nI_1 _]
      exact ih (i + 1) (by omega) (by omega) (by omega)
theorem leaveRow_1 {σ : KS} {x : Int32} {m j0 : Nat} (hm : m ≤ 16) (hl : σ.2 0 = nI m) (hj : j0 < m) (hx : σ.1 16 j0 = x) (hne : ∀ i, i < m → i ≠ j0 → ¬ σ.1 16 i = x) : ∀ (n i : Nat), i ≤ j0 → m < n + i →
    f_X2_leaveRow_4 n x (nI i) (nI i) σ = some (0, sv (setA σ 16 (shR j0 (m - 1) (σ.1 16))) 0 (nI (m - 1))) := by
  intro n
  induction n with
  | zero => intro i a b; omega
  | succ n ih =>
    intro i a b
    rw [f_X2_leaveRow_4]
    unfold gv
    rw [hl, if_neg (nI_ge (by omega) (by omega)), chk_nI (by omega) (by decide), chk_nI (by omega) (by decide), chk_nI (by omega) (by decide), rd_nI (by omega), show nI i + 1 = nI (i + 1) from nI_1 i]
    by_cases e : i = j0
    · subst e
      rw [if_pos hx]
      have := leaveRow_2 (σ := σ) (x := x) (R := σ.1 16) hm hl hj hne n i (Nat.le_refl _) (by omega) (by omega)
      rw [shR_0, setA_self] at this
      exact this
    · rw [if_neg (hne i (by omega) e), wr_setA (by omega), upd_self, setA_self]
      exact ih (i + 1) (by omega) (by omega)
theorem leaveRow_t {σ : KS} {x : Int32} {m j0 : Nat} (hm : m ≤ 16) (hl : σ.2 0 = nI m) (hj : j0 < m) (hx : σ.1 16 j0 = x) (hne : ∀ i, i < m → i ≠ j0 → ¬ σ.1 16 i = x) : m_X2_leaveRow x σ = some (0, sv (setA σ 16 (shR j0 (m - 1) (σ.1 16))) 0 (nI (m - 1))) :=
  leaveRow_1 hm hl hj hx hne FU 0 (by omega) (show m < 1100 + 0 by omega)
theorem joinRow_t {σ : KS} {x : Int32} {m : Nat} (hm : m < 16) (hl : σ.2 0 = nI m) : m_X2_joinRow x σ = some (0, sv (setA σ 16 (upd (σ.1 16) m x)) 0 (nI (m + 1))) := by
  unfold m_X2_joinRow gv
  rw [wr_2, hl, if_neg (show ¬ (16 : Int32) ≤ nI m from nI_ge (b := 16) hm (by omega)), chk_nI hm (by decide), wr_setA (by omega), show nI m + 1 = nI (m + 1) from nI_1 m]
theorem tick_l {ρ : KS} {x : Int32} {m : Nat} {R : Nat → Int32} (h0 : 0 < m) (hm : m ≤ 16) (hl : ρ.2 0 = nI m) : ∀ (n i : Nat), i + 1 ≤ m → m < n + (i + 1) →
    f_X3_tick_28 n x (nI i) (setA ρ 13 (shR 0 i R)) = some (upd (shR 0 (m - 1) R) (m - 1) x 0, setA ρ 13 (upd (shR 0 (m - 1) R) (m - 1) x)) := by
  intro n
  induction n with
  | zero => intro i a b; omega
  | succ n ih =>
    intro i a b
    rw [f_X3_tick_28]
    unfold gv
    rw [setA_2, hl, show nI i + 1 = nI (i + 1) from nI_1 i]
    have hp : nI m - 1 = nI (m - 1) := pk_sub (a := m) (b := 1) (by omega)
    by_cases e : i + 1 = m
    · rw [if_pos (nI_le (by omega) (by omega)), hp, q0, chk_nI (by omega) (by decide), chk_nI (by omega) (by decide), setA_wr (by omega), rd_nI (by omega), setA_at, show i = m - 1 by omega]
    · have hr : (setA ρ 13 (shR 0 i R)).1 13 (i + 1) = R (i + 1) := by rw [setA_at]; unfold shR; rw [if_neg (by omega)]
      rw [if_neg (nI_ge (by omega) (by omega)), chk_nI (by omega) (by decide), chk_nI (by omega) (by decide), rd_nI (by omega), hr, setA_wr (by omega), shR_s (Nat.zero_le _)]
      exact ih (i + 1) (by omega) (by omega)
/-- what Rel speaks of, but the row: the same rows are left -/
theorem sim_tick : ∀ (σ ρ : KS), Rel σ ρ → ∃ (r : Int32) (σ' ρ' : KS), m_X2_tick σ = some (r, σ') ∧ m_X3_tick ρ = some (r, ρ') ∧ Rel σ' ρ' := by
  intro σ ρ h
  obtain ⟨m, n1, n2, n3, n4, n5, n6⟩ := h.2.2.2.2.2.2.2.1
  unfold m_X2_tick m_X3_tick gv
  rw [n2, n3]
  rcases Nat.eq_zero_or_pos m with e | e
  · subst e
    rw [if_pos (show nI 0 = 0 from rfl), if_pos (show nI 0 = 0 from rfl)]
    exact ⟨-1, σ, ρ, rfl, rfl, h⟩
  · have e0 : ¬ nI m = 0 := fun q => by have := (nI_01 (by omega)).mp q; omega
    rw [if_neg e0, if_neg e0]
    have hR0 : σ.1 16 0 = ρ.1 13 0 := (n4 0 e).1
    -- the class
    have hl1 := leaveRow_t (σ := σ) (x := σ.1 16 0) (j0 := 0) n1 n2 e rfl (fun i hi hne q => hne (n5 i 0 hi e (by rw [← (n4 i hi).1, ← (n4 0 e).1]; exact q)))
    obtain ⟨σ1, hσ1⟩ : ∃ z, z = sv (setA σ 16 (shR 0 (m - 1) (σ.1 16))) 0 (nI (m - 1)) := ⟨_, rfl⟩
    have a1 : σ1.1 16 = shR 0 (m - 1) (σ.1 16) := by rw [hσ1, sv_1, setA_at]
    have a2 : σ1.2 0 = nI (m - 1) := by rw [hσ1, sv_at]
    have hj1 := joinRow_t (σ := σ1) (x := σ.1 16 0) (m := m - 1) (by omega) a2
    rw [a1, show m - 1 + 1 = m by omega] at hj1
    obtain ⟨σ2, hσ2⟩ : ∃ z, z = sv (setA σ1 16 (upd (shR 0 (m - 1) (σ.1 16)) (m - 1) (σ.1 16 0))) 0 (nI m) := ⟨_, rfl⟩
    have b16 : σ2.1 16 = upd (shR 0 (m - 1) (σ.1 16)) (m - 1) (σ.1 16 0) := by rw [hσ2, sv_1, setA_at]
    have bo : ∀ k, k ≠ 16 → σ2.1 k = σ.1 k := fun k hk => by rw [hσ2, sv_1, setA_ne hk, hσ1, sv_1, setA_ne hk]
    have b0 : σ2.2 0 = nI m := by rw [hσ2, sv_at]
    have bs : ∀ j, j ≠ 0 → σ2.2 j = σ.2 j := fun j hj => by rw [hσ2, sv_ne hj, setA_2, hσ1, sv_ne hj, setA_2]
    rw [← hσ1] at hl1
    rw [← hσ2] at hj1
    -- the reference
    obtain ⟨ρ1, hρ1⟩ : ∃ z, z = sv ρ 3 (ρ.2 3 + 1) := ⟨_, rfl⟩
    have c0 : ρ1.2 0 = nI m := by rw [hρ1, sv_ne (by decide)]; exact n3
    have c13 : ρ1.1 = ρ.1 := by rw [hρ1, sv_1]
    have ht := tick_l (ρ := ρ1) (x := ρ.1 13 0) (R := ρ.1 13) e n1 c0 FU 0 (by omega) (show m < 1100 + (0 + 1) by omega)
    rw [shR_0, show setA ρ1 13 (ρ.1 13) = ρ1 by rw [← c13, setA_self]] at ht
    -- the rows are the same
    have hrow : ∀ i, i < m → upd (shR 0 (m - 1) (σ.1 16)) (m - 1) (σ.1 16 0) i = upd (shR 0 (m - 1) (ρ.1 13)) (m - 1) (ρ.1 13 0) i := by
      intro i hi
      by_cases ei : i = m - 1
      · subst ei; rw [upd_eq, upd_eq]; exact hR0
      · rw [upd_ne ei, upd_ne ei]; unfold shR; rw [if_pos (by omega), if_pos (by omega)]; exact (n4 (i + 1) (by omega)).1
    have hval : ∀ i, i < m → upd (shR 0 (m - 1) (ρ.1 13)) (m - 1) (ρ.1 13 0) i = ρ.1 13 (if i = m - 1 then 0 else i + 1) := by
      intro i hi
      by_cases ei : i = m - 1
      · subst ei; rw [upd_eq, if_pos rfl]
      · rw [upd_ne ei, if_neg ei]; unfold shR; rw [if_pos (by omega)]
    refine ⟨upd (shR 0 (m - 1) (ρ.1 13)) (m - 1) (ρ.1 13 0) 0, sv σ2 3 (σ2.2 3 + 1), setA ρ1 13 (upd (shR 0 (m - 1) (ρ.1 13)) (m - 1) (ρ.1 13 0)), ?_, ?_, ?_⟩
    · rw [q0, chk_nI (by decide) (by decide), rd_nI (by decide), bnd_eq hl1, bnd_eq hj1, chk_nI (by decide) (by decide), rd_nI (by decide), sv_1, b16, hrow 0 e]
    · rw [show ∀ k : KR, chk 0 16 k = k from fun k => chk_nI (i := 0) (by decide) (by decide), ← hρ1, show rd ρ1 13 0 = ρ.1 13 0 by rw [q0, rd_nI (by decide), c13]]
      exact ht
    · -- Rel
      obtain ⟨hB, hD, hK, hP, hQ, hT, hG, -, s1, s2, s3⟩ := h
      have eX : ∀ k, k ≠ 16 → (sv σ2 3 (σ2.2 3 + 1)).1 k = σ.1 k := fun k hk => by rw [sv_1]; exact bo k hk
      have eM : ∀ k, k ≠ 13 → (setA ρ1 13 (upd (shR 0 (m - 1) (ρ.1 13)) (m - 1) (ρ.1 13 0))).1 k = ρ.1 k := fun k hk => by rw [setA_ne hk, c13]
      have mX : ∀ l : List Nat, 16 ∉ l → ∀ k ∈ l, (sv σ2 3 (σ2.2 3 + 1)).1 k = σ.1 k := fun l hl k hk => eX k (fun q => hl (q ▸ hk))
      have mM : ∀ l : List Nat, 13 ∉ l → ∀ k ∈ l, (setA ρ1 13 (upd (shR 0 (m - 1) (ρ.1 13)) (m - 1) (ρ.1 13 0))).1 k = ρ.1 k := fun l hl k hk => eM k (fun q => hl (q ▸ hk))
      refine ⟨hB.cong (mX _ (by decide)) (mM _ (by decide)), hD.cong (eM 2 (by decide)), hK.cong (eX 10 (by decide)) (mM _ (by decide)), hP.cong (mX _ (by decide)) (mM _ (by decide)), hQ.cong (eX 15 (by decide)) (mM _ (by decide)), hT.cong (eX 8 (by decide)) (mM _ (by decide)), hG.cong (mX _ (by decide)) (mM _ (by decide)), ?_, ?_⟩
      · refine ⟨m, n1, by rw [sv_ne (by decide)]; exact b0, by rw [setA_2]; exact c0, fun i hi => ⟨?_, ?_⟩, fun i j hi hj he => ?_, fun p hp hl => ?_⟩
        · rw [sv_1, b16, setA_at]; exact hrow i hi
        · rw [setA_at, hval i hi, eM 6 (by decide)]
          exact (n4 (if i = m - 1 then 0 else i + 1) (by split <;> omega)).2
        · rw [setA_at, hval i hi, hval j hj] at he
          have := n5 _ _ (by split <;> omega) (by split <;> omega) he
          split at this <;> split at this <;> omega
        · rw [eM 6 (by decide)] at hl
          obtain ⟨i, hi, he⟩ := n6 p hp hl
          refine ⟨if i = 0 then m - 1 else i - 1, by split <;> omega, ?_⟩
          rw [setA_at, hval _ (by split <;> omega), ← he]
          by_cases ei : i = 0
          · rw [if_pos ei, if_pos rfl, ei]
          · rw [if_neg ei, if_neg (by omega), show i - 1 + 1 = i by omega]
      · refine ⟨?_, ?_, ?_⟩
        · rw [sv_ne (by decide), setA_2, hρ1, sv_ne (by decide), bs 1 (by decide)]; exact s1
        · rw [sv_ne (by decide), setA_2, hρ1, sv_ne (by decide), bs 2 (by decide)]; exact s2
        · rw [sv_at, setA_2, hρ1, sv_at, bs 3 (by decide), s3]
