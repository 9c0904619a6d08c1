/-! PURE: grow: the whole of it -/
theorem aside_rel {σ ρ ρ1 : KS} (h : Rel σ ρ) (e1 : ∀ k, k < 14 → ρ1.1 k = ρ.1 k) (s : ρ1.2 = ρ.2) : Rel σ ρ1 := by
  obtain ⟨hB, hD, hK, hP, hQ, hT, hG, hR, hS⟩ := h
  exact ⟨hB.cong (fun _ _ => rfl) (fun k hk => e1 k (by revert k; decide)), hD.cong (e1 2 (by decide)), hK.cong rfl (fun k hk => e1 k (by revert k; decide)), hP.cong (fun _ _ => rfl) (fun k hk => e1 k (by revert k; decide)), hQ.cong rfl (fun k hk => e1 k (by revert k; decide)), hT.cong rfl (fun k hk => e1 k (by revert k; decide)), hG.cong (fun _ _ => rfl) (fun k hk => e1 k (by revert k; decide)), hR.cong rfl (fun k hk => e1 k (by revert k; decide)) rfl (by rw [s]), by unfold rS; rw [s]; exact hS⟩
theorem shr0 {p b n : Nat} {σ : KS} (hb : b < 2 ^ 30) : f_X2_shrinkTo_9 (n + 1) (nI p) (nI b) (nI b - 1) σ = some (0, σ) := by
  rw [f_X2_shrinkTo_9]
  cases b with
  | zero => rw [if_pos (m1_lt (by decide))]
  | succ b => rw [nI_pred, if_pos (nI_lt (by omega) (by omega))]
theorem cmpN_ge {a b : Nat} (ha : a < 2 ^ 31) (hb : b < 2 ^ 31) : 0 ≤ lg_cmp (nI a).toInt64 (lN b) ↔ b ≤ a := by rw [lg_cmp_ge, nI_l ha, lN_le hb ha]
theorem cmpN_le {a b : Nat} (ha : a < 2 ^ 31) (hb : b < 2 ^ 31) : lg_cmp (nI a).toInt64 (lN b) ≤ 0 ↔ a ≤ b := by rw [lg_cmp_le, nI_l ha, lN_le ha hb]
theorem gloop {σ0 ρ0 : KS} {p b t : Nat} {x2 : Int32} (hp : p < 16) (ht : t ≤ 256) : ∀ (d n m k : Nat) (σ τ ρ : KS), k + d = t → b ≤ k → d < n → d < m → gA p b k σ0 ρ0 σ τ → gR p b ρ0 ρ → (∀ j ∈ [1, 2, 3, 11, 12], ρ.1 j = τ.1 j) →
    (∃ σ' τ' ρ', f_X2_grow_44 n (nI p) x2 (nI b) (nI t) (nI k) σ = bnd (m_X2_shrinkTo (nI p) (nI t) σ') (fun _ s => some (nI b, s)) ∧ f_X3_grow_85 m (nI p) x2 (lN t) (nI b) (nI k) ρ = f_X3_grow_186 FU (nI p) x2 (lN t) (nI b) (nI b) ρ' ∧ gA p b t σ0 ρ0 σ' τ' ∧ gR p b ρ0 ρ' ∧ ∀ j ∈ [1, 2, 3, 11, 12], ρ'.1 j = τ'.1 j) ∨
    (∃ k' σ' τ' ρ', b ≤ k' ∧ k' < 256 ∧ f_X2_grow_44 n (nI p) x2 (nI b) (nI t) (nI k) σ = bnd (m_X2_shrinkTo (nI p) (nI b) σ') (fun _ σ_64 => bnd (m_X2_refuse σ_64) (fun r_68 σ_68 => some (r_68, σ_68))) ∧ f_X3_grow_85 m (nI p) x2 (lN t) (nI b) (nI k) ρ = bnd (m_X3_fail ρ') (fun r s => some (r, s)) ∧ gA p b k' σ0 ρ0 σ' τ' ∧ gR p b ρ0 ρ') := by
  intro d
  induction d with
  | zero =>
    intro n m k σ τ ρ e hbk hn hm hA hr hρ
    obtain ⟨n', rfl⟩ : ∃ n', n = n' + 1 := ⟨n - 1, by omega⟩
    obtain ⟨m', rfl⟩ : ∃ m', m = m' + 1 := ⟨m - 1, by omega⟩
    have ek : k = t := by omega
    subst ek
    left
    refine ⟨σ, τ, ρ, ?_, ?_, hA, hr, hρ⟩
    · rw [f_X2_grow_44, if_pos (nI_le (Nat.le_refl _) (by omega))]
    · rw [f_X3_grow_85, if_pos ((cmpN_ge (by omega) (by omega)).mpr (Nat.le_refl _))]
  | succ d ih =>
    intro n m k σ τ ρ e hbk hn hm hA hr hρ
    obtain ⟨n', rfl⟩ : ∃ n', n = n' + 1 := ⟨n - 1, by omega⟩
    obtain ⟨m', rfl⟩ : ∃ m', m = m' + 1 := ⟨m - 1, by omega⟩
    have hc : ¬ 0 ≤ lg_cmp (nI k).toInt64 (lN t) := fun w => by have := (cmpN_ge (by omega) (by omega)).mp w; omega
    rcases gstep hA hr hρ hp (by omega) hbk with ⟨σ1, τ1, ρ1, c1, c2, c3, c4, c5⟩ | ⟨σ1, τ1, ρ1, c1, c2, c3, c4⟩
    · have eX : f_X2_grow_44 (n' + 1) (nI p) x2 (nI b) (nI t) (nI k) σ = f_X2_grow_44 n' (nI p) x2 (nI b) (nI t) (nI (k + 1)) σ1 := by
        rw [f_X2_grow_44, if_neg (nI_ge (by omega) (by omega)), bnd_eq c1, if_neg (by decide), show nI k + 1 = nI (k + 1) from nI_1 k]
      rw [eX, c2 m' x2 (lN t) (nI b) hc]
      exact ih n' m' (k + 1) σ1 τ1 ρ1 (by omega) (by omega) (by omega) (by omega) c3 c4 c5
    · right
      refine ⟨k, σ1, τ1, ρ1, hbk, by omega, ?_, c2 m' x2 (lN t) (nI b) hc, c3, c4⟩
      rw [f_X2_grow_44, if_neg (nI_ge (by omega) (by omega)), bnd_eq c1, if_pos rfl]
theorem z197 {kk : Int32 → Int32 → Int64 → Int32 → Int32 → KS → KR} {ρ : KS} {p j f : Nat} {x2 x5 : Int32} {x3 : Int64} (hp : p < 16) (hj : j < 256) (hf : f < 128) (h11 : ρ.1 11 (256 * p + j) = nI f) : ∀ (n i : Nat), i ≤ 64 → 64 < n + i →
    f_X3_grow_197 kk n (nI p) x2 x3 x5 (nI j) (nI i) (setA ρ 4 (zrW (ρ.1 4) f i)) = kk (nI p) x2 x3 x5 (nI (j + 1)) (setA ρ 4 (zrW (ρ.1 4) f 64)) := by
  intro n
  induction n with
  | zero => intro i a b; omega
  | succ n ih =>
    intro i a b
    rw [f_X3_grow_197]
    by_cases e : i = 64
    · subst e; rw [if_pos (show (64 : Int32) ≤ nI 64 from nI_le (a := 64) (by omega) (by omega)), show nI j + 1 = nI (j + 1) from nI_1 j]
    · rw [if_neg (show ¬ (64 : Int32) ≤ nI i from nI_ge (b := 64) (by omega) (by omega)), show (256 : Int32) * nI p + nI j = nI (256 * p + j) by rw [q256, pk_mul, nI_add], chk_nI (by omega) (by decide), rd_nI (by omega), setA_ne (by decide), h11, show (64 : Int32) * nI f + nI i = nI (64 * f + i) by rw [q64, pk_mul, nI_add], chk_nI (by omega) (by decide), setA_wr (by omega), zrW_s, show nI i + 1 = nI (i + 1) from nI_1 i]
      exact ih (i + 1) (by omega) (by omega)
theorem z186 {p b t : Nat} {x2 : Int32} (hp : p < 16) (ht : t ≤ 256) : ∀ (d n j : Nat) (ρ : KS), j + d = t → d < n → (∀ i, j ≤ i → i < t → ρ.1 11 (256 * p + i) = nI (pgN ρ p i) ∧ pgN ρ p i < 128) →
    ∃ ρ', f_X3_grow_186 n (nI p) x2 (lN t) (nI b) (nI j) ρ = some (nI b, ρ') ∧ ρ'.1 7 = upd (ρ.1 7) p (nI t) ∧ (∀ k, k ≠ 4 → k ≠ 7 → ρ'.1 k = ρ.1 k) ∧ ρ'.2 = ρ.2 ∧ (∀ z, (∀ i, j ≤ i → i < t → pgN ρ p i ≠ z / 64) → ρ'.1 4 z = ρ.1 4 z) ∧ (∀ i w, j ≤ i → i < t → w < 64 → ρ'.1 4 (64 * pgN ρ p i + w) = 0) := by
  intro d
  induction d with
  | zero =>
    intro n j ρ e hn hh
    obtain ⟨n', rfl⟩ : ∃ n', n = n' + 1 := ⟨n - 1, by omega⟩
    have ek : j = t := by omega
    subst ek
    refine ⟨wr ρ 7 (nI p) (nI j), ?_, by rw [wr_at (by omega)], fun k a b => wr_ne b, wr_2, fun z _ => by rw [wr_ne (by decide)], fun i w a b _ => by omega⟩
    rw [f_X3_grow_186, if_pos ((cmpN_ge (by omega) (by omega)).mpr (Nat.le_refl _)), chk_nI hp (by decide), lN_i]
  | succ d ih =>
    intro n j ρ e hn hh
    obtain ⟨n', rfl⟩ : ∃ n', n = n' + 1 := ⟨n - 1, by omega⟩
    have hc : ¬ 0 ≤ lg_cmp (nI j).toInt64 (lN t) := fun w => by have := (cmpN_ge (by omega) (by omega)).mp w; omega
    obtain ⟨g1, g2⟩ := hh j (Nat.le_refl _) (by omega)
    obtain ⟨ρ1, hρ1⟩ : ∃ z, z = setA ρ 4 (zrW (ρ.1 4) (pgN ρ p j) 64) := ⟨_, rfl⟩
    have e4 : ρ1.1 4 = zrW (ρ.1 4) (pgN ρ p j) 64 := by rw [hρ1, setA_at]
    have eo : ∀ k, k ≠ 4 → ρ1.1 k = ρ.1 k := fun k hk => by rw [hρ1, setA_ne hk]
    have epg : ∀ i, pgN ρ1 p i = pgN ρ p i := fun i => by unfold pgN; rw [eo 11 (by decide)]
    obtain ⟨ρ2, c1, c2, c3, c4, c5, c6⟩ := ih n' (j + 1) ρ1 (by omega) (by omega) (fun i a b => by rw [epg, eo 11 (by decide)]; exact hh i (by omega) b)
    have hz := z197 (kk := fun y1 y2 y3 y5 y6 σ => f_X3_grow_186 n' y1 y2 y3 y5 y6 σ) (ρ := ρ) (x2 := x2) (x5 := nI b) (x3 := lN t) hp (show j < 256 by omega) g2 g1 FU 0 (by omega) (by decide)
    rw [zrW_0, setA_self, ← hρ1] at hz
    refine ⟨ρ2, ?_, by rw [c2, eo 7 (by decide)], fun k a b => by rw [c3 k a b, eo k a], by rw [c4, hρ1, setA_2], fun z hz' => ?_, fun i w a b hw => ?_⟩
    · rw [f_X3_grow_186, if_neg hc]
      exact (show f_X3_grow_197 _ FU (nI p) x2 (lN t) (nI b) (nI j) 0 ρ = _ from hz).trans c1
    · rw [c5 z (fun i a b => by rw [epg]; exact hz' i (by omega) b), e4, zrW_out (fun w => hz' j (Nat.le_refl _) (by omega) w.symm)]
    · by_cases q : ∃ i', j + 1 ≤ i' ∧ i' < t ∧ pgN ρ p i' = pgN ρ p i
      · obtain ⟨i', q1, q2, q3⟩ := q
        rw [← q3, ← epg]
        exact c6 i' w q1 q2 hw
      · have hij : i = j := Classical.byContradiction fun w => q ⟨i, by omega, b, rfl⟩
        subst hij
        rw [c5 _ (fun i' a' b' => by rw [epg, show (64 * pgN ρ p i + w) / 64 = pgN ρ p i by omega]; exact fun w' => q ⟨i', a', b', w'⟩), e4, zrW_in hw]
theorem sim_grow : ∀ (a b : Int32) (σ ρ : KS), Rel σ ρ → ∃ (r : Int32) (σ' ρ' : KS), m_X2_grow a b σ = some (r, σ') ∧ m_X3_grow a b ρ = some (r, ρ') ∧ Rel σ' ρ' := by
  intro a x σ ρ h
  unfold m_X2_grow m_X3_grow
  rcases live_cases h.2.2.2.1 a with ⟨p, hp, rfl, hl, -, r1, r2⟩ | ⟨r1, r2⟩
  · rw [bnd_eq r1, bnd_eq r2, if_neg (show ¬ (1 : Int32) = 0 by decide), if_neg (show ¬ (1 : Int32) = 0 by decide), chk_nI hp (by decide), chk_nI hp (by decide), rd_nI (by omega), rd_nI (by omega)]
    obtain ⟨-, -, p3, p4, p5, -, -, -⟩ := h.2.2.2.1 p hp
    obtain ⟨b, hb⟩ : ∃ b, b = bk ρ p := ⟨_, rfl⟩
    rw [← hb] at p4 p5
    rw [p3, p4]
    have hX1 := Int32.le_toInt x
    have hX2 := Int32.toInt_lt x
    have hL : ((nI b).toInt64 + x.toInt64).toInt = (b : Int) + x.toInt := by
      rw [Int64.toInt_add, Int32.toInt_toInt64, Int32.toInt_toInt64, nI_toInt (by omega)]
      apply Int.bmod_eq_of_le <;> omega
    have hneg : (-nI b).toInt = -(b : Int) := sb_negT (by omega)
    have hsub : ((256 : Int32) - nI b).toInt = 256 - (b : Int) := pk_sub_toInt (a := 256) (b := b) (by omega) (by omega)
    have d1 : (x < -nI b) ↔ (b : Int) + x.toInt < 0 := by rw [Int32.lt_iff_toInt_lt, hneg]; omega
    have d2 : (x ≤ (256 : Int32) - nI b) ↔ (b : Int) + x.toInt ≤ 256 := by rw [Int32.le_iff_toInt_le, hsub]; omega
    have d3 : (lg_cmp ((nI b).toInt64 + x.toInt64) 0 < 0) ↔ (b : Int) + x.toInt < 0 := by
      rw [lg_cmp_lt, Int64.lt_iff_toInt_lt, hL]
      exact Iff.rfl
    have d4 : (lg_cmp ((nI b).toInt64 + x.toInt64) 256 ≤ 0) ↔ (b : Int) + x.toInt ≤ 256 := by
      rw [lg_cmp_le, Int64.le_iff_toInt_le, hL]
      exact Iff.rfl
    by_cases n1 : (b : Int) + x.toInt < 0
    · rw [if_pos (d1.mpr n1), if_pos (d3.mpr n1)]
      exact ⟨-2, σ, ρ, rfl, rfl, h⟩
    rw [if_neg (fun w => n1 (d1.mp w)), if_neg (fun w => n1 (d3.mp w))]
    by_cases n2 : (b : Int) + x.toInt ≤ 256
    · rw [if_pos (d2.mpr n2), if_pos (d4.mpr n2), chk_nI hp (by decide)]
      obtain ⟨t, ht⟩ : ∃ t : Nat, (t : Int) = (b : Int) + x.toInt := ⟨((b : Int) + x.toInt).toNat, by omega⟩
      have eL : (nI b).toInt64 + x.toInt64 = lN t := Int64.toInt_inj.mp (by rw [hL, lN_toInt (by omega), ht])
      have eI : nI b + x = nI t := by
        refine Int32.toInt_inj.mp ?_
        rw [Int32.toInt_add, nI_toInt (by omega), nI_toInt (by omega), ht]
        apply Int.bmod_eq_of_le <;> omega
      rw [eL, eI]
      have hx0 : (0 : Int32) < x ↔ b < t := by
        rw [Int32.lt_iff_toInt_lt]
        show (0 : Int) < x.toInt ↔ _
        omega
      by_cases n3 : b < t
      · rw [if_pos (hx0.mpr n3)]
        obtain ⟨ρ1, rl, s1, l1, l2, l3⟩ := layAside_t (ρ := ρ) (fun i hi => fr01 h.1.2.1 hi) (fun i hi => us01 h.1 hi)
        have e1 : ∀ k, k < 14 → ρ1.1 k = ρ.1 k := fun k hk => s1.2 k (mem3 (by omega) (by omega) (by omega))
        have h1 : Rel σ ρ1 := aside_rel h e1 s1.1
        rw [bnd_eq rl]
        have l1' : ∀ i, i < 1024 → ρ1.1 14 i = ρ1.1 1 i := fun i hi => by rw [l1 i hi, e1 1 (by decide)]
        have l2' : ∀ i, i < 128 → ρ1.1 15 i = ρ1.1 2 i := fun i hi => by rw [l2 i hi, e1 2 (by decide)]
        have l3' : ∀ i, i < 512 → ρ1.1 16 i = ρ1.1 3 i := fun i hi => by rw [l3 i hi, e1 3 (by decide)]
        have hb1 : ρ1.1 7 p = nI b := by rw [e1 7 (by decide)]; exact p4
        have hA0 : gA p b b σ ρ1 σ ρ1 := by
          refine ⟨h1.l, by rw [e1 6 (by decide)]; exact hl, ?_, rfl, fun _ _ => rfl, fun _ _ _ _ _ => rfl, fun _ _ _ _ _ => rfl, fun _ _ => rfl, fun t a b => by omega, fun _ _ => Or.inl rfl, fun j a b => by omega, fun _ _ => rfl, fun _ _ => rfl, rfl⟩
          rw [← hb1]
          funext j
          by_cases e : j = p
          · rw [e, upd_eq]
          · rw [upd_ne e]
        have hR0 : gR p b ρ1 ρ1 := ⟨fun _ _ => rfl, rfl, fun _ _ _ _ _ => rfl, fun _ _ _ _ _ => rfl⟩
        rcases gloop (x2 := x) hp (show t ≤ 256 by omega) (t - b) FU FU b σ ρ1 ρ1 (by omega) (Nat.le_refl _) (show t - b < 1100 by omega) (show t - b < 1100 by omega) hA0 hR0 (fun _ _ => rfl) with ⟨σ2, τ2, ρ2, c1, c2, c3, c4, c5⟩ | ⟨k, σ2, τ2, ρ2, k1, k2, c1, c2, c3, c4⟩
        · rw [c1, c2]
          obtain ⟨hR, hl2, h7, h2, ho, h11, h12, hu, hu0, hkd, hpg, hw, hxx, hxs⟩ := id c3
          obtain ⟨g1, g2, g3, g4⟩ := c4
          have hb2 : bk τ2 p = t := by unfold bk; rw [h7, upd_eq, nI_cl (by omega)]
          have hst : m_X2_shrinkTo (nI p) (nI t) σ2 = some (0, σ2) := by
            unfold m_X2_shrinkTo
            rw [chk_nI hp (by decide), rd_nI (by omega), (hR.2.2.2.1 p hp).2.2.1, (hR.2.2.2.1 p hp).2.2.2.1, hb2]
            exact shr0 (n := 1099) (by omega)
          have epg : ∀ i, pgN ρ2 p i = pgN τ2 p i := fun i => by unfold pgN; rw [c5 11 (by decide)]
          obtain ⟨ρ3, z1, z2, z3, z4, z5, z6⟩ := z186 (b := b) (x2 := x) hp (show t ≤ 256 by omega) (t - b) FU b ρ2 (by omega) (show t - b < 1100 by omega) (fun i a b' => by
            obtain ⟨w1, w2, -⟩ := hR.2.2.2.2.2.2.1.1 p i hp (by omega)
            rw [epg, c5 11 (by decide)]
            exact ⟨w2, w1⟩)
          rw [bnd_eq hst, z1]
          refine ⟨nI b, σ2, ρ3, rfl, rfl, ?_⟩
          have z1' : ∀ j ∈ [1, 2, 3, 11, 12], ρ3.1 j = τ2.1 j := fun j hj => by rw [z3 j (by revert j; decide) (by revert j; decide)]; exact c5 j hj
          have z2' : ∀ j ∈ [5, 6, 8, 9, 10, 13], ρ3.1 j = τ2.1 j := fun j hj => by rw [z3 j (by revert j; decide) (by revert j; decide), g1 j (by revert j; decide), ho j (by revert j; decide)]
          have z7' : ρ3.1 7 = τ2.1 7 := by rw [z2, g1 7 (by decide), h7]
          refine Rl.rel (hR.swap (ρ := ρ3) ⟨fun i _ => by rw [z1' 2 (by decide)], fun i _ => by rw [z1' 3 (by decide)], fun q _ => ⟨by rw [z2' 6 (by decide)], by rw [z7'], fun _ => ⟨by rw [z2' 8 (by decide)], by rw [z2' 10 (by decide)]⟩, by rw [z2' 9 (by decide)]⟩, fun q t' _ _ => by rw [z1' 12 (by decide)], fun q k' _ _ => by rw [z1' 11 (by decide)], fun f w hf hw' _ => ?_, fun f _ => by rw [z2' 5 (by decide)], fun i _ => by rw [z2' 13 (by decide)], by rw [z4, g2, h2]⟩ ?_ ?_) ?_
          · by_cases q : ∃ i, b ≤ i ∧ i < t ∧ pgN τ2 p i = f
            · obtain ⟨i, q1, q2, q3⟩ := q
              have w1 := z6 i w q1 q2 hw'
              rw [epg, q3] at w1
              have w2 := (hpg i q1 q2).2 w hw'
              rw [q3] at w2
              rw [w1, w2]
            · have hno : ∀ i, b ≤ i → i < t → pgN τ2 p i ≠ (64 * f + w) / 64 := fun i a b' e => q ⟨i, a, b', by rw [e]; omega⟩
              rw [z5 _ (fun i a b' => by rw [epg]; exact hno i a b'), g1 4 (by decide), hw _ hno]
          · rw [z1' 1 (by decide)]; exact hR.1.2.1
          · have := h1.2.2.2.2.2.2.2.2
            unfold rS at this ⊢
            rw [hxs, z4, g2]; exact this
          · exact h1.2.2.2.2.2.2.2.1.cong (hxx 16 (by decide)) (fun j hj => by rw [z2' j (by revert j; decide), ho j (by revert j; decide)]) (by rw [hxs]) (by rw [z4, g2])
        · rw [c1, c2]
          obtain ⟨hR, hl2, h7, h2, ho, h11, h12, hu, hu0, hkd, hpg, hw, hxx, hxs⟩ := id c3
          obtain ⟨g1, g2, g3, g4⟩ := c4
          have hb2 : bk τ2 p = k := by unfold bk; rw [h7, upd_eq, nI_cl (by omega)]
          obtain ⟨σ3, τ3, v1, -, hR3, hb3, xo3, mo3, m73, xs3, ms3, kd3, ua3, ub3⟩ := shrink (b := b) hp (k - b) FU σ2 τ2 hR hl2 (by omega) (show k - b < 1100 by omega)
          have hst : m_X2_shrinkTo (nI p) (nI b) σ2 = some (0, σ3) := by
            unfold m_X2_shrinkTo
            rw [chk_nI hp (by decide), rd_nI (by omega), (hR.2.2.2.1 p hp).2.2.1, (hR.2.2.2.1 p hp).2.2.2.1, hb2]
            rw [show b + (k - b) = k by omega] at v1
            exact v1
          have g14 : ∀ j ∈ [14, 15, 16], ρ2.1 j = ρ1.1 j := fun j hj => g1 j (by revert j; decide)
          obtain ⟨ρ4, rf, s4, f1, f2, f3⟩ := fail_t (ρ := ρ2) (fun i hi => by rw [g14 14 (by decide), l1 i hi]; exact fr01 h.1.2.1 hi) (fun i hi => by rw [g14 16 (by decide), l3 i hi]; exact us01 h.1 hi)
          rw [bnd_eq hst, bnd_eq rf]
          have eb : bk ρ1 p = b := by unfold bk; rw [hb1, nI_cl (by omega)]
          have bl : ∀ q, q < 16 → bk ρ1 q ≤ 256 := fun q hq => (h1.2.2.2.1 q hq).2.2.2.2.1
          have mk : ∀ j, j ∈ [5, 6, 8, 9, 10, 13] → τ3.1 j = ρ1.1 j := fun j hj => by rw [mo3 j (by revert j; decide) (by revert j; decide) (by revert j; decide) (by revert j; decide)]; exact ho j (by revert j; decide)
          refine ⟨-3, sv σ3 2 (σ3.2 2 + 1), sv ρ4 2 (ρ2.2 2 + 1), rfl, rfl, undone (τ3 := τ3) (ρ0 := ρ1) h1 hR3 ?_ ?_ ?_ ?_ (mk 5 (by decide)) (mk 13 (by decide)) ?_ ?_ ?_ ?_ ?_ (fun i hi => by rw [g14 14 (by decide)]; exact l1' i hi) (fun i hi => by rw [g14 15 (by decide)]; exact l2' i hi) (fun i hi => by rw [g14 16 (by decide)]; exact l3' i hi) s4 f1 f2 f3 (fun j hj => g1 j (by revert j; decide)) ?_ ?_ g2⟩
          · rw [xo3 16 (by decide) (by decide) (by decide) (by decide) (by decide)]; exact hxx 16 (by decide)
          · rw [xs3]; exact hxs
          · intro r hr
            by_cases q : ∃ t', b ≤ 16 * t' ∧ 16 * t' < k ∧ tbN τ2 p t' = r
            · obtain ⟨t', q1, q2, q3⟩ := q
              have w1 := ub3 t' q1 (by omega)
              have w2 := hu0 t' q1 q2
              rw [q3] at w1 w2
              rw [w1, w2]
            · have hno : ∀ t', b ≤ 16 * t' → 16 * t' < k → tbN τ2 p t' ≠ r := fun t' a b' e => q ⟨t', a, b', e⟩
              rw [ua3 r (fun t' a b' => hno t' a (by omega)), hu r hno]
          · intro f hf
            rcases kd3 f hf with w | ⟨w1, w2⟩
            · rw [w]
              rcases hkd f hf with z | z
              · exact Or.inl z
              · exact Or.inr (Or.inl z)
            · rcases hkd f hf with z | z
              · rw [z] at w1; exact Or.inr (Or.inr ⟨w1, w2⟩)
              · exact Or.inr (Or.inl z)
          · rw [ms3]; exact h2
          · intro q hq
            refine ⟨by rw [mk 6 (by decide)], ?_, by rw [mk 8 (by decide)], by rw [mk 9 (by decide)], by rw [mk 10 (by decide)]⟩
            by_cases e : q = p
            · subst e
              rw [(hR3.2.2.2.1 q hq).2.2.2.1, hb3, hb1]
            · rw [m73 q e, h7, upd_ne e]
          · intro q t' hq ht'
            have := bl q hq
            rw [mo3 12 (by decide) (by decide) (by decide) (by decide)]
            refine h12 q t' hq (by omega) ?_
            by_cases e : q = p
            · right; rw [e, eb] at ht'; exact ht'
            · exact Or.inl e
          · intro q j hq hj
            have := bl q hq
            rw [mo3 11 (by decide) (by decide) (by decide) (by decide)]
            refine h11 q j hq (by omega) ?_
            by_cases e : q = p
            · right; rw [e, eb] at hj; exact hj
            · exact Or.inl e
          · intro f w hf hw' h3
            rw [mo3 4 (by decide) (by decide) (by decide) (by decide)]
            refine hw _ (fun j a b' e => ?_)
            have := (hpg j a b').1
            rw [e, show (64 * f + w) / 64 = f by omega, h3] at this
            exact absurd this (by decide)
          · intro q t' hq ht'
            have := bl q hq
            refine g4 q t' hq (by omega) ?_
            by_cases e : q = p
            · right; rw [e, eb] at ht'; exact ht'
            · exact Or.inl e
          · intro q j hq hj
            have := bl q hq
            refine g3 q j hq (by omega) ?_
            by_cases e : q = p
            · right; rw [e, eb] at hj; exact hj
            · exact Or.inl e
      · rw [if_neg (fun w => n3 (hx0.mp w))]
        obtain ⟨σ3, τ3, v1, v2, hR3, hb3, xo3, mo3, m73, xs3, ms3, -, -, -⟩ := shrink (b := t) hp (b - t) FU σ ρ h.l hl (by omega) (show b - t < 1100 by omega)
        have hst : m_X2_shrinkTo (nI p) (nI t) σ = some (0, σ3) := by
          unfold m_X2_shrinkTo
          rw [chk_nI hp (by decide), rd_nI (by omega), p3, p4]
          rw [show t + (b - t) = b by omega] at v1
          exact v1
        have eX : f_X2_grow_44 FU (nI p) x (nI b) (nI t) (nI b) σ = some (nI b, σ3) := by
          show f_X2_grow_44 (1099 + 1) (nI p) x (nI b) (nI t) (nI b) σ = _
          rw [f_X2_grow_44, if_pos (nI_le (by omega) (by omega)), bnd_eq hst]
        have eM := v2 (fun n τ => f_X3_grow_54 n (nI p) x (lN t) (nI b) τ) (fun τ => some (nI b, τ)) FU (fun n τ c e hc => by
          show f_X3_grow_54 (n + 1) _ _ _ _ τ = _
          rw [f_X3_grow_54, chk_nI hp (by decide), rd_nI (by omega), e, if_neg (fun w => by have := (cmpN_le (by omega) (by omega)).mp w; omega)]) (fun n τ e => by
          show f_X3_grow_54 (n + 1) _ _ _ _ τ = _
          rw [f_X3_grow_54, chk_nI hp (by decide), rd_nI (by omega), e, if_pos ((cmpN_le (by omega) (by omega)).mpr (Nat.le_refl _))]) (show b - t < 1100 by omega)
        rw [eX]
        refine ⟨nI b, σ3, τ3, rfl, eM, hR3.rel ?_⟩
        exact h.2.2.2.2.2.2.2.1.cong (xo3 16 (by decide) (by decide) (by decide) (by decide) (by decide)) (fun j hj => mo3 j (by revert j; decide) (by revert j; decide) (by revert j; decide) (by revert j; decide)) (by rw [xs3]) (by rw [ms3])
    · rw [if_neg (fun w => n2 (d2.mp w)), if_neg (fun w => n2 (d4.mp w))]
      exact ⟨-2, σ, ρ, rfl, rfl, h⟩
  · rw [bnd_eq r1, if_pos rfl, bnd_eq r2, if_pos rfl, if_pos (by decide)]
    exact ⟨-2, σ, ρ, rfl, rfl, h⟩
