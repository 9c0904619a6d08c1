/-! PURE: grow: numbers, tables, the way back -/
/-- an unneeded word of a record, an unneeded entry of the tables' row -/
theorem Rl.slot {σ τ : KS} {p r t0 : Nat} {v v' : Int32} (h : Rl σ τ) (hp : p < 16) (hr : r < 512) (hk1 : τ.1 2 (r / 4) = nI 1) (ht0 : t0 < 16) (h1 : ∀ q, q < 16 → ¬ τ.1 6 q = 0 → rcN τ q = r → bk τ q ≤ 16 * t0) (h2 : bk τ p ≤ 16 * t0) :
    Rl (wr σ 8 (nI (16 * r + t0)) v) (wr τ 12 (nI (16 * p + t0)) v') := by
  obtain ⟨hB, hD, hK, hP, hQ, hT, hG, hS⟩ := h
  have xo : ∀ k, k ≠ 8 → (wr σ 8 (nI (16 * r + t0)) v).1 k = σ.1 k := fun k hk => wr_ne hk
  have mo : ∀ k, k ≠ 12 → (wr τ 12 (nI (16 * p + t0)) v').1 k = τ.1 k := fun k hk => wr_ne hk
  have x8 : ∀ z, z ≠ 16 * r + t0 → (wr σ 8 (nI (16 * r + t0)) v).1 8 z = σ.1 8 z := fun z hz => by rw [wr_at (by omega), upd_ne hz]
  have ebk : ∀ q, bk (wr τ 12 (nI (16 * p + t0)) v') q = bk τ q := fun q => by unfold bk; rw [mo 7 (by decide)]
  have epg : ∀ q j, pgN (wr τ 12 (nI (16 * p + t0)) v') q j = pgN τ q j := fun q j => by unfold pgN; rw [mo 11 (by decide)]
  have erc : ∀ q, rcN (wr τ 12 (nI (16 * p + t0)) v') q = rcN τ q := fun q => by unfold rcN; rw [mo 10 (by decide)]
  have bl : ∀ q, q < 16 → bk τ q ≤ 256 := fun q hq => (hP q hq).2.2.2.2.1
  have m12 : ∀ q t, q < 16 → 16 * t < bk τ q → (wr τ 12 (nI (16 * p + t0)) v').1 12 (16 * q + t) = τ.1 12 (16 * q + t) := fun q t hq ht => by
    rw [wr_at (by omega), upd_ne (by
      intro e
      have := bl q hq
      have e1 : q = p := by omega
      subst e1
      omega)]
  have etb : ∀ q t, q < 16 → 16 * t < bk τ q → tbN (wr τ 12 (nI (16 * p + t0)) v') q t = tbN τ q t := fun q t hq ht => by unfold tbN; rw [m12 q t hq ht]
  have eu : ∀ g, usr (wr τ 12 (nI (16 * p + t0)) v') g = usr τ g := fun g => by
    unfold usr
    refine sN_congr fun q hq => ?_
    rw [ebk]
    exact cn_congr fun k hk => by rw [epg]
  refine ⟨hB.cong (fun k hk => xo k (by revert k; decide)) (fun k hk => mo k (by revert k; decide)), hD.cong (mo 2 (by decide)), hK.cong (xo 10 (by decide)) (fun k hk => mo k (by revert k; decide)), hP.cong (fun k hk => xo k (by revert k; decide)) (fun k hk => mo k (by revert k; decide)), hQ.cong (xo 15 (by decide)) (fun k hk => mo k (by revert k; decide)), ⟨?_, ?_⟩, ⟨?_, ?_, ?_⟩, hS⟩
  · intro q t hq ht
    rw [ebk] at ht
    obtain ⟨t1, t2, t3, t4, t5⟩ := hT.1 q t hq ht
    have := bl q hq
    have hn : ¬ τ.1 6 q = 0 := fun e => by have := (hP q hq).2.2.2.2.2.1 (by rw [e]; decide); omega
    rw [etb q t hq ht, erc, m12 q t hq ht, mo 3 (by decide), mo 2 (by decide), x8]
    · exact ⟨t1, t2, t3, t4, t5⟩
    · intro e
      have e1 : rcN τ q = r := by omega
      have := h1 q hq hn e1
      omega
  · intro q t q' t' hq hq' ht ht' e
    rw [ebk] at ht ht'
    rw [etb q t hq ht, etb q' t' hq' ht'] at e
    exact hT.2 q t q' t' hq hq' ht ht' e
  · intro q j hq hj
    rw [ebk] at hj
    obtain ⟨v1, -, -, v4, -⟩ := hT.1 q (j / 16) hq (by omega)
    rw [epg, etb q (j / 16) hq (by omega), mo 11 (by decide), x8]
    · exact hG.1 q j hq hj
    · intro e
      have : tbN τ q (j / 16) / 4 = r / 4 := by omega
      rw [this, hk1] at v4
      exact absurd v4 (by decide)
  · intro g hg
    rw [eu, xo 9 (by decide), mo 2 (by decide)]
    exact hG.2.1 g hg
  · intro g u hg hu h3
    rw [mo 2 (by decide)] at h3
    rw [mo 4 (by decide), x8]
    · exact hG.2.2 g u hg hu h3
    · intro e
      have : g = r / 4 := by omega
      rw [this, hk1] at h3
      exact absurd h3 (by decide)
/-- a table is taken for p, on both sides (ρ: the reference's own state; τ: as it stands in thought) -/
theorem pairTab {σ τ ρ : KS} {p r k : Nat} (h : Rl σ τ) (hρ : ∀ j ∈ [1, 2, 3], ρ.1 j = τ.1 j) (hp : p < 16) (hk : k < 256) (hk16 : k % 16 = 0) (h15 : σ.1 15 p = nI r) (hr : r < 512) (hk1 : τ.1 2 (r / 4) = nI 1) (hur : τ.1 3 r = 1) (h1 : ∀ q, q < 16 → ¬ τ.1 6 q = 0 → rcN τ q = r → bk τ q ≤ k) (h2 : bk τ p ≤ k) :
    (m_X2_addTable (nI p) (nI k) σ = some (0, σ) ∧ m_X3_takeSmall 2 ρ = some (-1, ρ)) ∨
    ∃ tab σ1 ρ1 τ1, tab < 512 ∧ m_X2_addTable (nI p) (nI k) σ = some (1, σ1) ∧ m_X3_takeSmall 2 ρ = some (nI tab, ρ1) ∧ sam [1, 2, 3] ρ ρ1 ∧ Rl σ1 τ1 ∧ (∀ j ∈ [1, 2, 3], τ1.1 j = ρ1.1 j) ∧ (∀ j, j ≠ 1 → j ≠ 2 → j ≠ 3 → j ≠ 12 → τ1.1 j = τ.1 j) ∧ τ1.2 = τ.2 ∧ τ1.1 12 = upd (τ.1 12) (16 * p + k / 16) (nI tab) ∧
      τ.1 3 tab = 0 ∧ (τ.1 2 (tab / 4) = nI 2 ∨ τ.1 2 (tab / 4) = 0) ∧ τ1.1 2 = upd (τ.1 2) (tab / 4) (nI 2) ∧ τ1.1 3 = upd (τ.1 3) tab 1 ∧ (∀ j, j ≠ 4 → j ≠ 5 → j ≠ 7 → j ≠ 8 → σ1.1 j = σ.1 j) ∧ σ1.1 8 = upd (σ.1 8) (16 * r + k / 16) (nI tab) ∧ σ1.2 = σ.2 := by
  have hBρ : rB σ ρ := h.1.cong (fun _ _ => rfl) hρ
  obtain ⟨x, σ2, ρ2, t1, t2, hc⟩ := pairT_t hBρ
  have t2 : m_X3_takeSmall 2 ρ = some (x, ρ2) := t2
  rcases hc with ⟨rfl, rfl, rfl⟩ | ⟨tab, ht, rfl, hu0, hk0, sx, sm', e2, e3, hB2⟩
  · left
    refine ⟨?_, t2⟩
    unfold m_X2_addTable
    rw [bnd_eq t1, if_pos rfl]
  · right
    obtain ⟨τa, hτa⟩ : ∃ z : KS, z = (fun j => if j = 1 ∨ j = 2 ∨ j = 3 then ρ2.1 j else τ.1 j, τ.2) := ⟨_, rfl⟩
    have a123 : ∀ j ∈ [1, 2, 3], τa.1 j = ρ2.1 j := fun j hj => by rw [hτa]; show (if _ then _ else _) = _; rw [if_pos (by revert j; decide)]
    have ao : ∀ j, j ≠ 1 → j ≠ 2 → j ≠ 3 → τa.1 j = τ.1 j := fun j a b c => by rw [hτa]; show (if _ then _ else _) = _; rw [if_neg (by omega)]
    have sma : sam [1, 2, 3] τ τa := ⟨by rw [hτa], fun j hj => ao j (fun e => hj (by rw [e]; decide)) (fun e => hj (by rw [e]; decide)) (fun e => hj (by rw [e]; decide))⟩
    have r2 := hρ 2 (by decide); have r3 := hρ 3 (by decide)
    rw [r2] at hk0 e2
    rw [r3] at hu0 e3
    have ea2 : τa.1 2 = upd (τ.1 2) (tab / 4) (nI 2) := by rw [a123 2 (by decide), e2]
    have ea3 : τa.1 3 = upd (τ.1 3) tab 1 := by rw [a123 3 (by decide), e3]
    obtain ⟨kp, k3, k4, kd, -, -⟩ := take_keep (s := 2) (Or.inr rfl) ht hu0 hk0 ea2 ea3
    have hBa : rB σ2 τa := hB2.cong (fun _ _ => rfl) (fun j hj => a123 j hj)
    have hRa : Rl σ2 τa := h.places (Or.inr rfl) sx sma hBa kp k3 k4 kd (fun _ _ _ => id) (fun _ _ _ _ => id)
    have hrk : τa.1 2 (r / 4) = nI 1 := (kp r hr id 1 (Or.inl rfl) hur hk1).2
    have hbka : ∀ q, bk τa q = bk τ q := fun q => by unfold bk; rw [ao 7 (by decide) (by decide) (by decide)]
    have hrca : ∀ q, rcN τa q = rcN τ q := fun q => by unfold rcN; rw [ao 10 (by decide) (by decide) (by decide)]
    have h16 : 16 * (k / 16) = k := by omega
    have hRs := hRa.slot (v := nI tab) (v' := nI tab) (t0 := k / 16) hp hr hrk (by omega) (fun q hq hn e => by
      rw [ao 6 (by decide) (by decide) (by decide)] at hn
      rw [hrca] at e
      rw [hbka, h16]
      exact h1 q hq hn e) (by rw [hbka, h16]; exact h2)
    refine ⟨tab, wr σ2 8 (nI (16 * r + k / 16)) (nI tab), ρ2, wr τa 12 (nI (16 * p + k / 16)) (nI tab), ht, ?_, t2, sm', hRs, fun j hj => by rw [wr_ne (by revert j; decide)]; exact a123 j hj, fun j a b c d => by rw [wr_ne d, ao j a b c], by rw [wr_2, hτa], by rw [wr_at (by omega), ao 12 (by decide) (by decide) (by decide)], hu0, hk0, by rw [wr_ne (by decide)]; exact ea2, by rw [wr_ne (by decide)]; exact ea3, fun j a b c d => by rw [wr_ne d, sx.2 j (mem3 a b c)], by rw [wr_at (by omega), sx.2 8 (by decide)], by rw [wr_2]; exact sx.1⟩
    unfold m_X2_addTable
    rw [bnd_eq t1, if_neg (nI_m1 (by omega)), bnd_eq (tableIndex_t (r := r) hp (by omega) (by rw [sx.2 15 (by decide)]; exact h15)), bnd_eq (setWord_t (by omega))]
/-- all is as it was, one refusal more -/
theorem undone {σ0 ρ0 σ3 τ3 ρx ρ4 : KS} (h0 : Rel σ0 ρ0) (h3 : Rl σ3 τ3) (x16 : σ3.1 16 = σ0.1 16) (xs : σ3.2 = σ0.2)
    (hu : ∀ r, r < 512 → τ3.1 3 r = ρ0.1 3 r) (hH : ∀ f, f < 128 → τ3.1 2 f = ρ0.1 2 f ∨ ρ0.1 2 f = 0 ∨ ((ρ0.1 2 f = nI 3 ∨ ρ0.1 2 f = nI 2) ∧ τ3.1 2 f = 0))
    (t5 : τ3.1 5 = ρ0.1 5) (t13 : τ3.1 13 = ρ0.1 13) (ts : τ3.2 = ρ0.2) (tp : ∀ p, p < 16 → τ3.1 6 p = ρ0.1 6 p ∧ τ3.1 7 p = ρ0.1 7 p ∧ τ3.1 8 p = ρ0.1 8 p ∧ τ3.1 9 p = ρ0.1 9 p ∧ τ3.1 10 p = ρ0.1 10 p)
    (t12 : ∀ p t, p < 16 → 16 * t < bk ρ0 p → τ3.1 12 (16 * p + t) = ρ0.1 12 (16 * p + t)) (t11 : ∀ p k, p < 16 → k < bk ρ0 p → τ3.1 11 (256 * p + k) = ρ0.1 11 (256 * p + k)) (t4 : ∀ f w, f < 128 → w < 64 → ρ0.1 2 f = nI 3 → τ3.1 4 (64 * f + w) = ρ0.1 4 (64 * f + w))
    (l1 : ∀ i, i < 1024 → ρx.1 14 i = ρ0.1 1 i) (l2 : ∀ i, i < 128 → ρx.1 15 i = ρ0.1 2 i) (l3 : ∀ i, i < 512 → ρx.1 16 i = ρ0.1 3 i) (s4 : sam [1, 2, 3] ρx ρ4) (d1 : ∀ i, i < 1024 → ρ4.1 1 i = ρx.1 14 i) (d2 : ∀ i, i < 128 → ρ4.1 2 i = ρx.1 15 i) (d3 : ∀ i, i < 512 → ρ4.1 3 i = ρx.1 16 i)
    (xo : ∀ j, j ∈ [4, 5, 6, 7, 8, 9, 10, 13] → ρx.1 j = ρ0.1 j) (x12 : ∀ p t, p < 16 → 16 * t < bk ρ0 p → ρx.1 12 (16 * p + t) = ρ0.1 12 (16 * p + t)) (x11 : ∀ p k, p < 16 → k < bk ρ0 p → ρx.1 11 (256 * p + k) = ρ0.1 11 (256 * p + k)) (xs' : ρx.2 = ρ0.2) :
    Rel (sv σ3 2 (σ3.2 2 + 1)) (sv ρ4 2 (ρx.2 2 + 1)) := by
  have ebk : ∀ p, p < 16 → bk τ3 p = bk ρ0 p := fun p hp => by unfold bk; rw [(tp p hp).2.1]
  have eu : ∀ f, usr τ3 f = usr ρ0 f := fun f => by
    unfold usr
    refine sN_congr fun p hp => ?_
    rw [ebk p hp]
    exact cn_congr fun k hk => by unfold pgN; rw [t11 p k hp hk]
  have kd := kd_end h3 h0.l hu (fun f _ => eu f) (fun f _ => by rw [t5]) hH
  have eo : ∀ j, j ∈ [4, 5, 6, 7, 8, 9, 10, 13] → (sv ρ4 2 (ρx.2 2 + 1)).1 j = ρ0.1 j := fun j hj => by
    have hj1 : j ∉ [1, 2, 3] := by revert j; decide
    rw [sv_1, s4.2 j hj1, xo j hj]
  have ez : zs τ3 = zs ρ0 := by
    funext i
    refine propext ?_
    unfold zs
    exact ⟨fun q => ⟨q.1, by rw [← kd i q.1]; exact q.2⟩, fun q => ⟨q.1, by rw [kd i q.1]; exact q.2⟩⟩
  have hb : Rl (sv σ3 2 (σ3.2 2 + 1)) (sv τ3 2 (τ3.2 2 + 1)) := by
    obtain ⟨hB, hD, hK, hP, hQ, hT, hG, hS⟩ := h3
    refine ⟨hB.cong (fun _ _ => rfl) (fun _ _ => rfl), hD, hK, hP.cong (fun _ _ => rfl) (fun _ _ => rfl), hQ, hT, hG, ?_, ?_, ?_⟩
    · rw [sv_ne (by decide), sv_ne (by decide)]; exact hS.1
    · rw [sv_at, sv_at, hS.2.1]
    · rw [sv_ne (by decide), sv_ne (by decide)]; exact hS.2.2
  have hs2 : ∀ j, j ≠ 2 → (sv ρ4 2 (ρx.2 2 + 1)).2 j = ρ0.2 j := fun j hj => by rw [sv_ne hj, s4.1, xs']
  refine Rl.rel (hb.swap (ρ := sv ρ4 2 (ρx.2 2 + 1)) ?_ ?_ ?_) ?_
  · have e12 : ∀ p t, p < 16 → 16 * t < bk ρ0 p → ρ4.1 12 (16 * p + t) = ρ0.1 12 (16 * p + t) := fun p t hp ht => by rw [s4.2 12 (by decide)]; exact x12 p t hp ht
    have e11 : ∀ p k, p < 16 → k < bk ρ0 p → ρ4.1 11 (256 * p + k) = ρ0.1 11 (256 * p + k) := fun p k hp hk => by rw [s4.2 11 (by decide)]; exact x11 p k hp hk
    have hbs : ∀ p, bk (sv τ3 2 (τ3.2 2 + 1)) p = bk τ3 p := fun p => rfl
    refine ⟨fun i hi => ?_, fun i hi => ?_, fun p hp => ?_, fun p t hp ht => ?_, fun p k hp hk => ?_, fun f w hf hw h3' => ?_, fun f hf => ?_, fun i hi => ?_, ?_⟩
    · rw [sv_1, d2 i hi, l2 i hi]; exact (kd i hi).symm
    · rw [sv_1, d3 i hi, l3 i hi]; exact (hu i hi).symm
    · rw [eo 6 (by decide), eo 7 (by decide), eo 8 (by decide), eo 9 (by decide), eo 10 (by decide)]
      obtain ⟨a, b, c, d, e⟩ := tp p hp
      exact ⟨a.symm, b.symm, fun _ => ⟨c.symm, e.symm⟩, d.symm⟩
    · rw [hbs, ebk p hp] at ht
      rw [sv_1, e12 p t hp ht]; exact (t12 p t hp ht).symm
    · rw [hbs, ebk p hp] at hk
      rw [sv_1, e11 p k hp hk]; exact (t11 p k hp hk).symm
    · have h3'' : ρ0.1 2 f = nI 3 := by rw [← kd f hf]; exact h3'
      rw [eo 4 (by decide)]; exact (t4 f w hf hw h3'').symm
    · rw [eo 5 (by decide)]; show _ = τ3.1 5 f; rw [t5]
    · rw [eo 13 (by decide)]; show _ = τ3.1 13 i; rw [t13]
    · rw [hs2 0 (by decide), sv_ne (by decide), ts]
  · show canR (ρ4.1 1) (zs τ3)
    rw [ez]
    intro g j hg hj
    rw [d1 _ (by omega), l1 _ (by omega)]
    exact h0.1.2.1 g j hg hj
  · refine ⟨?_, ?_, ?_⟩
    · rw [hs2 1 (by decide), sv_ne (by decide), xs]; exact h0.2.2.2.2.2.2.2.2.1
    · rw [sv_at, sv_at, xs, xs', h0.2.2.2.2.2.2.2.2.2.1]
    · rw [hs2 3 (by decide), sv_ne (by decide), xs]; exact h0.2.2.2.2.2.2.2.2.2.2
  · refine h0.2.2.2.2.2.2.2.1.cong (by rw [sv_1]; exact x16) (fun k hk => eo k (by revert k; decide)) (by rw [sv_ne (by decide), xs]) (hs2 0 (by decide))
