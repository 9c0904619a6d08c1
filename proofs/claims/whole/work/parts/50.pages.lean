/-! PURE: pages come, go, move -/
theorem sN_upd {g g' : Nat → Nat} {p : Nat} : ∀ {n : Nat}, p < n → (∀ q, q < n → q ≠ p → g' q = g q) → sN g' n + g p = sN g n + g' p := by
  intro n
  induction n with
  | zero => intro h; omega
  | succ n ih =>
    intro h he
    show sN g' n + g' n + g p = sN g n + g n + g' p
    by_cases e : n = p
    · subst e
      rw [sN_congr (g := g') (h := g) (fun i hi => he i (by omega) (by omega))]
      omega
    · have := ih (by omega) (fun q hq hne => he q (by omega) hne)
      rw [he n (by omega) e]
      omega
theorem usr_ch {ρ ρ' : KS} {p : Nat} (hp : p < 16) (hq : ∀ q, q < 16 → q ≠ p → bk ρ' q = bk ρ q ∧ ∀ k, k < bk ρ q → pgN ρ' q k = pgN ρ q k) (f : Nat) : usr ρ' f + cn (fun k => pgN ρ p k = f) (bk ρ p) = usr ρ f + cn (fun k => pgN ρ' p k = f) (bk ρ' p) := by
  unfold usr
  exact sN_upd (g := fun p => cn (fun k => pgN ρ p k = f) (bk ρ p)) (g' := fun p => cn (fun k => pgN ρ' p k = f) (bk ρ' p)) hp (fun q hq' hne => by
    show cn _ _ = cn _ _
    rw [(hq q hq' hne).1]
    exact cn_congr fun k hk => by rw [(hq q hq' hne).2 k hk])
theorem nI_cl {n : Nat} (h : n < 2 ^ 31) : (nI n).toNatClampNeg = n := nI_clamp h
theorem pgdel {σ ρ σ' ρ' : KS} {p k f : Nat} (h : Rl σ ρ) (hp : p < 16) (hl : ρ.1 6 p = 1) (hb : bk ρ p = k + 1) (hf : f = pgN ρ p k)
    (x14 : σ'.1 14 = upd (σ.1 14) p (nI k)) (x9 : σ'.1 9 = upd (σ.1 9) f (nI (usr ρ f - 1))) (xo : ∀ j, j ≠ 4 → j ≠ 5 → j ≠ 9 → j ≠ 14 → σ'.1 j = σ.1 j) (xs : σ'.2 = σ.2)
    (m7 : ρ'.1 7 = upd (ρ.1 7) p (nI k)) (mo : ∀ j, j ≠ 1 → j ≠ 2 → j ≠ 7 → ρ'.1 j = ρ.1 j) (ms : ρ'.2 = ρ.2) (m2 : ∀ j, j < 128 → ρ'.1 2 j = if j = f ∧ usr ρ f = 1 then 0 else ρ.1 2 j)
    (cb : cB σ' (zs ρ')) (cr : canR (ρ'.1 1) (zs ρ')) : Rl σ' ρ' := by
  obtain ⟨⟨-, -, hP1, hP2, hO⟩, hD, hK, hP, hQ, hT, hG, hS⟩ := id h
  have hk : k < bk ρ p := by omega
  have b5 := (hP p hp).2.2.2.2.1
  have f1 : f < 128 := by rw [hf]; exact (hG.1 p k hp hk).1
  have upos : 0 < usr ρ f := by rw [hf]; exact usr_pos hp hk
  have k3 : ρ.1 2 f = nI 3 := (hG.2.1 f f1).2.mpr upos
  have kvv : ∀ v, v = 1 ∨ v = 2 ∨ v = 4 → kv v ρ ρ' := by
    intro v hv i hi
    rw [m2 i hi]
    by_cases q : i = f ∧ usr ρ f = 1
    · rw [if_pos q, q.1, k3]
      rcases hv with rfl | rfl | rfl <;> decide
    · rw [if_neg q]
  have ebp : bk ρ' p = k := by unfold bk; rw [m7, upd_eq, nI_cl (by omega)]
  have ebq : ∀ q, q ≠ p → bk ρ' q = bk ρ q := fun q hq => by unfold bk; rw [m7, upd_ne hq]
  have epg : ∀ q j, pgN ρ' q j = pgN ρ q j := fun q j => by unfold pgN; rw [mo 11 (by decide) (by decide) (by decide)]
  have etb : ∀ q j, tbN ρ' q j = tbN ρ q j := fun q j => by unfold tbN; rw [mo 12 (by decide) (by decide) (by decide)]
  have erc : ∀ q, rcN ρ' q = rcN ρ q := fun q => by unfold rcN; rw [mo 10 (by decide) (by decide) (by decide)]
  have ble : ∀ q, bk ρ' q ≤ bk ρ q := fun q => by
    by_cases e : q = p
    · rw [e, ebp, hb]; omega
    · rw [ebq q e]; exact Nat.le_refl _
  have eu : ∀ g, usr ρ' g + (if g = f then 1 else 0) = usr ρ g := by
    intro g
    have := usr_ch (ρ := ρ) (ρ' := ρ') hp (fun q hq hne => ⟨ebq q hne, fun j hj => epg q j⟩) g
    rw [ebp, hb, cn_congr (P := fun j => pgN ρ' p j = g) (Q := fun j => pgN ρ p j = g) (n := k) (fun i hi => by rw [epg])] at this
    by_cases e : g = f
    · rw [if_pos e]
      rw [cn_s (P := fun j => pgN ρ p j = g) (n := k) (by rw [e, hf])] at this
      omega
    · rw [if_neg e]
      rw [cn_s0 (P := fun j => pgN ρ p j = g) (n := k) (by rw [← hf]; exact fun w => e w.symm)] at this
      omega
  refine ⟨⟨cb, cr, hP1.kv (xo 6 (by decide) (by decide) (by decide) (by decide)) (mo 3 (by decide) (by decide) (by decide)) (kvv 1 (by decide)), hP2.kv (xo 7 (by decide) (by decide) (by decide) (by decide)) (mo 3 (by decide) (by decide) (by decide)) (kvv 2 (by decide)), hO.kv (mo 3 (by decide) (by decide) (by decide)) (kvv 1 (by decide)) (kvv 2 (by decide))⟩, ?_, hK.kv (xo 10 (by decide) (by decide) (by decide) (by decide)) (mo 5 (by decide) (by decide) (by decide)) (kvv 4 (by decide)), ?_, hQ.kv (xo 15 (by decide) (by decide) (by decide) (by decide)) (fun j hj => mo j (by revert j; decide) (by revert j; decide) (by revert j; decide)) (kvv 1 (by decide)), ⟨?_, ?_⟩, ⟨?_, ?_, ?_⟩, ?_⟩
  · intro i hi
    rw [m2 i hi]
    split
    · exact ⟨0, by decide, rfl⟩
    · exact hD i hi
  · intro q hq
    obtain ⟨p1, p2, p3, p4, p5, p6, p7, p8⟩ := hP q hq
    rw [xo 11 (by decide) (by decide) (by decide) (by decide), xo 12 (by decide) (by decide) (by decide) (by decide), xo 13 (by decide) (by decide) (by decide) (by decide), x14, m7, mo 6 (by decide) (by decide) (by decide), mo 8 (by decide) (by decide) (by decide), mo 9 (by decide) (by decide) (by decide)]
    by_cases e : q = p
    · subst e
      rw [upd_eq, upd_eq, ebp]
      exact ⟨p1, p2, rfl, rfl, by omega, fun w => absurd hl w, p7, p8⟩
    · rw [upd_ne e, upd_ne e, ebq q e]
      exact ⟨p1, p2, p3, p4, p5, p6, p7, p8⟩
  · intro q t hq ht
    have ht' : 16 * t < bk ρ q := Nat.lt_of_lt_of_le ht (ble q)
    obtain ⟨t1, t2, t3, t4, t5⟩ := hT.1 q t hq ht'
    rw [etb, erc, mo 12 (by decide) (by decide) (by decide), mo 3 (by decide) (by decide) (by decide), xo 8 (by decide) (by decide) (by decide) (by decide)]
    exact ⟨t1, t2, t3, (kvv 2 (by decide) _ (by omega)).mpr t4, t5⟩
  · intro q t q' t' hq hq' ht ht' e
    rw [etb, etb] at e
    exact hT.2 q t q' t' hq hq' (Nat.lt_of_lt_of_le ht (ble q)) (Nat.lt_of_lt_of_le ht' (ble q')) e
  · intro q j hq hj
    rw [epg, etb, mo 11 (by decide) (by decide) (by decide), xo 8 (by decide) (by decide) (by decide) (by decide)]
    exact hG.1 q j hq (Nat.lt_of_lt_of_le hj (ble q))
  · intro g hg
    obtain ⟨g1, g2⟩ := hG.2.1 g hg
    have e := eu g
    rw [x9, m2 g hg]
    by_cases eg : g = f
    · subst eg
      rw [if_pos rfl] at e
      rw [upd_eq]
      refine ⟨congrArg nI (by omega), ?_⟩
      by_cases u1 : usr ρ g = 1
      · rw [if_pos ⟨rfl, u1⟩]
        exact ⟨fun w => absurd w (by decide), fun w => by omega⟩
      · rw [if_neg (fun w => u1 w.2)]
        exact ⟨fun _ => by omega, fun _ => k3⟩
    · rw [if_neg eg] at e
      rw [upd_ne eg, if_neg (fun w => eg w.1), show usr ρ' g = usr ρ g by omega]
      exact ⟨g1, g2⟩
  · intro g w hg hw h3
    rw [m2 g hg] at h3
    rw [xo 8 (by decide) (by decide) (by decide) (by decide), mo 4 (by decide) (by decide) (by decide)]
    by_cases q : g = f ∧ usr ρ f = 1
    · rw [if_pos q] at h3; exact absurd h3 (by decide)
    · rw [if_neg q] at h3; exact hG.2.2 g w hg hw h3
  · unfold rS; rw [xs, ms]; exact hS
theorem pgadd {σ ρ σ' ρ' : KS} {p k f tab : Nat} (h : Rl σ ρ) (hp : p < 16) (hl : ρ.1 6 p = 1) (hb : bk ρ p = k) (hk : k < 256) (f1 : f < 128) (hkf : ρ.1 2 f = 0 ∨ ρ.1 2 f = nI 3)
    (t1 : tab < 512) (t3 : ρ.1 3 tab = 1) (t4 : ρ.1 2 (tab / 4) = nI 2) (t12 : ρ.1 12 (16 * p + k / 16) = nI tab) (t8 : σ.1 8 (16 * rcN ρ p + k / 16) = nI tab) (tn : k % 16 = 0 → ∀ q t, q < 16 → 16 * t < bk ρ q → tbN ρ q t ≠ tab)
    (x14 : σ'.1 14 = upd (σ.1 14) p (nI (k + 1))) (x9 : σ'.1 9 = upd (σ.1 9) f (nI (usr ρ f + 1))) (xo : ∀ j, j ≠ 4 → j ≠ 5 → j ≠ 8 → j ≠ 9 → j ≠ 14 → σ'.1 j = σ.1 j) (xs : σ'.2 = σ.2)
    (x8 : ∀ z, z / 64 ≠ f → z ≠ 16 * tab + k % 16 → σ'.1 8 z = σ.1 8 z) (x8t : σ'.1 8 (16 * tab + k % 16) = nI f) (x8w : ∀ w, w < 64 → σ'.1 8 (64 * f + w) = ρ'.1 4 (64 * f + w))
    (m7 : ρ'.1 7 = upd (ρ.1 7) p (nI (k + 1))) (m11 : ρ'.1 11 = upd (ρ.1 11) (256 * p + k) (nI f)) (m4 : ∀ z, z / 64 ≠ f → ρ'.1 4 z = ρ.1 4 z) (mo : ∀ j, j ≠ 1 → j ≠ 2 → j ≠ 4 → j ≠ 7 → j ≠ 11 → ρ'.1 j = ρ.1 j) (ms : ρ'.2 = ρ.2) (m2 : ∀ j, j < 128 → ρ'.1 2 j = if j = f then nI 3 else ρ.1 2 j)
    (cb : cB σ' (zs ρ')) (cr : canR (ρ'.1 1) (zs ρ')) : Rl σ' ρ' := by
  obtain ⟨⟨-, -, hP1, hP2, hO⟩, hD, hK, hP, hQ, hT, hG, hS⟩ := id h
  have kvv : ∀ v, v = 1 ∨ v = 2 ∨ v = 4 → kv v ρ ρ' := by
    intro v hv i hi
    rw [m2 i hi]
    by_cases q : i = f
    · rw [if_pos q, q]
      rcases hkf with w | w <;> rw [w] <;> rcases hv with rfl | rfl | rfl <;> decide
    · rw [if_neg q]
  have nf : ∀ g v, v = 1 ∨ v = 2 → ρ.1 2 g = nI v → g ≠ f := fun g v hv e q => by
    rw [q] at e
    rcases hkf with w | w <;> rw [w] at e <;> rcases hv with rfl | rfl <;> exact absurd e (by decide)
  have ebp : bk ρ' p = k + 1 := by unfold bk; rw [m7, upd_eq, nI_cl (by omega)]
  have ebq : ∀ q, q ≠ p → bk ρ' q = bk ρ q := fun q hq => by unfold bk; rw [m7, upd_ne hq]
  have bl : ∀ q, q < 16 → bk ρ q ≤ 256 := fun q hq => (hP q hq).2.2.2.2.1
  have epk : pgN ρ' p k = f := by unfold pgN; rw [m11, upd_eq, nI_cl (by omega)]
  have epg : ∀ q j, q < 16 → j < bk ρ q → pgN ρ' q j = pgN ρ q j := fun q j hq hj => by
    unfold pgN
    rw [m11, upd_ne (by
      intro e
      have := bl q hq
      have e1 : q = p := by omega
      subst e1
      omega)]
  have etb : ∀ q j, tbN ρ' q j = tbN ρ q j := fun q j => by unfold tbN; rw [mo 12 (by decide) (by decide) (by decide) (by decide) (by decide)]
  have erc : ∀ q, rcN ρ' q = rcN ρ q := fun q => by unfold rcN; rw [mo 10 (by decide) (by decide) (by decide) (by decide) (by decide)]
  have etab : tbN ρ p (k / 16) = tab := by unfold tbN; rw [t12, nI_cl (by omega)]
  have eu : ∀ g, usr ρ' g = usr ρ g + (if g = f then 1 else 0) := by
    intro g
    have := usr_ch (ρ := ρ) (ρ' := ρ') hp (fun q hq hne => ⟨ebq q hne, fun j hj => epg q j hq hj⟩) g
    rw [ebp, hb] at this
    have e1 : cn (fun j => pgN ρ' p j = g) k = cn (fun j => pgN ρ p j = g) k := cn_congr fun i hi => by rw [epg p i hp (by omega)]
    by_cases e : g = f
    · rw [if_pos e]
      rw [cn_s (P := fun j => pgN ρ' p j = g) (n := k) (by rw [e]; exact epk)] at this
      omega
    · rw [if_neg e]
      rw [cn_s0 (P := fun j => pgN ρ' p j = g) (n := k) (by show ¬ pgN ρ' p k = g; rw [epk]; exact fun w => e w.symm)] at this
      omega
  -- record slots are not touched
  have rec8 : ∀ q t, q < 16 → ¬ ρ.1 6 q = 0 → t < 16 → σ'.1 8 (16 * rcN ρ q + t) = σ.1 8 (16 * rcN ρ q + t) := by
    intro q t hq hn ht
    obtain ⟨-, -, -, -, q5⟩ := hQ.1 q hq hn
    refine x8 _ ?_ ?_
    · rw [show (16 * rcN ρ q + t) / 64 = rcN ρ q / 4 by omega]; exact nf _ 1 (Or.inl rfl) q5
    · intro e
      have : rcN ρ q / 4 = tab / 4 := by omega
      rw [this, t4] at q5
      exact absurd q5 (by decide)
  have liv : ∀ q, q < 16 → 0 < bk ρ q → ¬ ρ.1 6 q = 0 := fun q hq hb' w => by
    have := (hP q hq).2.2.2.2.2.1 (by rw [w]; decide)
    omega
  refine ⟨⟨cb, cr, hP1.kv (xo 6 (by decide) (by decide) (by decide) (by decide) (by decide)) (mo 3 (by decide) (by decide) (by decide) (by decide) (by decide)) (kvv 1 (by decide)), hP2.kv (xo 7 (by decide) (by decide) (by decide) (by decide) (by decide)) (mo 3 (by decide) (by decide) (by decide) (by decide) (by decide)) (kvv 2 (by decide)), hO.kv (mo 3 (by decide) (by decide) (by decide) (by decide) (by decide)) (kvv 1 (by decide)) (kvv 2 (by decide))⟩, ?_, hK.kv (xo 10 (by decide) (by decide) (by decide) (by decide) (by decide)) (mo 5 (by decide) (by decide) (by decide) (by decide) (by decide)) (kvv 4 (by decide)), ?_, hQ.kv (xo 15 (by decide) (by decide) (by decide) (by decide) (by decide)) (fun j hj => mo j (by revert j; decide) (by revert j; decide) (by revert j; decide) (by revert j; decide) (by revert j; decide)) (kvv 1 (by decide)), ⟨?_, ?_⟩, ⟨?_, ?_, ?_⟩, ?_⟩
  · intro i hi
    rw [m2 i hi]
    split
    · exact ⟨3, by decide, rfl⟩
    · exact hD i hi
  · intro q hq
    obtain ⟨p1, p2, p3, p4, p5, p6, p7, p8⟩ := hP q hq
    rw [xo 11 (by decide) (by decide) (by decide) (by decide) (by decide), xo 12 (by decide) (by decide) (by decide) (by decide) (by decide), xo 13 (by decide) (by decide) (by decide) (by decide) (by decide), x14, m7, mo 6 (by decide) (by decide) (by decide) (by decide) (by decide), mo 8 (by decide) (by decide) (by decide) (by decide) (by decide), mo 9 (by decide) (by decide) (by decide) (by decide) (by decide)]
    by_cases e : q = p
    · subst e
      rw [upd_eq, upd_eq, ebp]
      exact ⟨p1, p2, rfl, rfl, by omega, fun w => absurd hl w, p7, p8⟩
    · rw [upd_ne e, upd_ne e, ebq q e]
      exact ⟨p1, p2, p3, p4, p5, p6, p7, p8⟩
  · intro q t hq ht
    rw [etb, erc, mo 12 (by decide) (by decide) (by decide) (by decide) (by decide), mo 3 (by decide) (by decide) (by decide) (by decide) (by decide)]
    by_cases ht' : 16 * t < bk ρ q
    · obtain ⟨u1, u2, u3, u4, u5⟩ := hT.1 q t hq ht'
      have := bl q hq
      rw [rec8 q t hq (liv q hq (by omega)) (by omega)]
      exact ⟨u1, u2, u3, (kvv 2 (by decide) _ (by omega)).mpr u4, u5⟩
    · have e : q = p := Classical.byContradiction fun w => ht' (by rw [← ebq q w]; exact ht)
      subst e
      rw [ebp] at ht
      have et : t = k / 16 := by omega
      subst et
      rw [etab, rec8 q (k / 16) hq (by rw [hl]; decide) (by omega)]
      exact ⟨t1, t12, t3, (kvv 2 (by decide) _ (by omega)).mpr t4, t8⟩
  · intro q t q' t' hq hq' ht ht' e
    rw [etb, etb] at e
    have cl : ∀ q t, q < 16 → 16 * t < bk ρ' q → 16 * t < bk ρ q ∨ (q = p ∧ t = k / 16 ∧ k % 16 = 0) := fun q t hq ht => by
      by_cases w : 16 * t < bk ρ q
      · exact Or.inl w
      · right
        have e : q = p := Classical.byContradiction fun z => w (by rw [← ebq q z]; exact ht)
        subst e
        rw [ebp] at ht
        exact ⟨rfl, by omega, by omega⟩
    rcases cl q t hq ht with a | ⟨a1, a2, a3⟩
    · rcases cl q' t' hq' ht' with b | ⟨b1, b2, b3⟩
      · exact hT.2 q t q' t' hq hq' a b e
      · subst b1; subst b2
        rw [etab] at e
        exact absurd e (tn b3 q t hq a)
    · subst a1; subst a2
      rcases cl q' t' hq' ht' with b | ⟨b1, b2, b3⟩
      · rw [etab] at e
        exact absurd e.symm (tn a3 q' t' hq' b)
      · subst b1; subst b2; exact ⟨rfl, rfl⟩
  · intro q j hq hj
    by_cases hj' : j < bk ρ q
    · obtain ⟨u1, u2, u3⟩ := hG.1 q j hq hj'
      have := bl q hq
      rw [epg q j hq hj', etb, m11, upd_ne (by
        intro e
        have e1 : q = p := by omega
        subst e1
        omega)]
      refine ⟨u1, u2, ?_⟩
      obtain ⟨v1, -, -, v4, -⟩ := hT.1 q (j / 16) hq (by omega)
      rw [x8]
      · exact u3
      · rw [show (16 * tbN ρ q (j / 16) + j % 16) / 64 = tbN ρ q (j / 16) / 4 by omega]; exact nf _ 2 (Or.inr rfl) v4
      · intro e
        have e1 : tbN ρ q (j / 16) = tab := by omega
        have e2 : j % 16 = k % 16 := by omega
        by_cases hz : k % 16 = 0
        · exact tn hz q (j / 16) hq (by omega) e1
        · have := hT.2 q (j / 16) p (k / 16) hq hp (by omega) (by omega) (by rw [e1, etab])
          obtain ⟨w1, w2⟩ := this
          subst w1
          omega
    · have e : q = p := Classical.byContradiction fun w => hj' (by rw [← ebq q w]; exact hj)
      subst e
      rw [ebp] at hj
      have ej : j = k := by omega
      subst ej
      rw [epk, etb, etab, m11, upd_eq]
      exact ⟨f1, rfl, x8t⟩
  · intro g hg
    obtain ⟨g1, g2⟩ := hG.2.1 g hg
    rw [x9, m2 g hg, eu g]
    by_cases eg : g = f
    · subst eg
      rw [upd_eq, if_pos rfl, if_pos rfl]
      exact ⟨rfl, fun _ => by omega, fun _ => rfl⟩
    · rw [upd_ne eg, if_neg eg, if_neg eg]
      exact ⟨g1, g2⟩
  · intro g w hg hw h3
    by_cases eg : g = f
    · subst eg; exact x8w w hw
    · rw [m2 g hg, if_neg eg] at h3
      rw [m4 _ (by rw [show (64 * g + w) / 64 = g by omega]; exact eg), x8 _ (by rw [show (64 * g + w) / 64 = g by omega]; exact eg) (by
        intro e
        have : g = tab / 4 := by omega
        rw [this, t4] at h3
        exact absurd h3 (by decide))]
      exact hG.2.2 g w hg hw h3
  · unfold rS; rw [xs, ms]; exact hS
