/-! PURE: store -/
theorem wset {σ ρ : KS} {f w : Nat} {v : Int32} (h : Rl σ ρ) (hf : f < 128) (hw : w < 64) (k3 : ρ.1 2 f = nI 3) : Rl (wr σ 8 (nI (64 * f + w)) v) (wr ρ 4 (nI (64 * f + w)) v) := by
  obtain ⟨hB, hD, hK, hP, hQ, hT, hG, hS⟩ := h
  have x8 : ∀ z, z / 64 ≠ f → (wr σ 8 (nI (64 * f + w)) v).1 8 z = σ.1 8 z := fun z hz => by rw [wr_at (by omega), upd_ne (by omega)]
  have xo : ∀ k, k ≠ 8 → (wr σ 8 (nI (64 * f + w)) v).1 k = σ.1 k := fun k hk => wr_ne hk
  have mo : ∀ k, k ≠ 4 → (wr ρ 4 (nI (64 * f + w)) v).1 k = ρ.1 k := fun k hk => wr_ne hk
  have ebk : ∀ q, bk (wr ρ 4 (nI (64 * f + w)) v) q = bk ρ q := fun q => by unfold bk; rw [mo 7 (by decide)]
  have etb : ∀ q t, tbN (wr ρ 4 (nI (64 * f + w)) v) q t = tbN ρ q t := fun q t => by unfold tbN; rw [mo 12 (by decide)]
  have epg : ∀ q t, pgN (wr ρ 4 (nI (64 * f + w)) v) q t = pgN ρ q t := fun q t => by unfold pgN; rw [mo 11 (by decide)]
  have erc : ∀ q, rcN (wr ρ 4 (nI (64 * f + w)) v) q = rcN ρ q := fun q => by unfold rcN; rw [mo 10 (by decide)]
  have eu : ∀ g, usr (wr ρ 4 (nI (64 * f + w)) v) g = usr ρ g := fun g => by
    unfold usr
    refine sN_congr fun q hq => ?_
    rw [ebk]
    exact cn_congr fun k hk => by rw [epg]
  refine ⟨hB.cong (fun k hk => xo k (by revert k; decide)) (fun k hk => mo k (by revert k; decide)), hD.cong (mo 2 (by decide)), hK.cong (xo 10 (by decide)) (fun k hk => mo k (by revert k; decide)), hP.cong (fun k hk => xo k (by revert k; decide)) (fun k hk => mo k (by revert k; decide)), hQ.cong (xo 15 (by decide)) (fun k hk => mo k (by revert k; decide)), ⟨?_, ?_⟩, ⟨?_, ?_, ?_⟩, hS⟩
  · intro q t hq ht
    rw [ebk] at ht
    obtain ⟨t1, t2, t3, t4, t5⟩ := hT.1 q t hq ht
    have b5 := (hP q hq).2.2.2.2.1
    have hn : ¬ ρ.1 6 q = 0 := fun e => by have := (hP q hq).2.2.2.2.2.1 (by rw [e]; decide); omega
    obtain ⟨-, -, -, -, q5⟩ := hQ.1 q hq hn
    rw [etb, erc, mo 12 (by decide), mo 3 (by decide), mo 2 (by decide), x8]
    · exact ⟨t1, t2, t3, t4, t5⟩
    · rw [show (16 * rcN ρ q + t) / 64 = rcN ρ q / 4 by omega]
      intro e
      rw [e, k3] at q5
      exact absurd q5 (by decide)
  · intro q t q' t' hq hq' ht ht' e
    rw [ebk] at ht ht'
    rw [etb, etb] at e
    exact hT.2 q t q' t' hq hq' ht ht' e
  · intro q j hq hj
    rw [ebk] at hj
    obtain ⟨-, -, -, v4, -⟩ := hT.1 q (j / 16) hq (by omega)
    rw [epg, etb, mo 11 (by decide), x8]
    · exact hG.1 q j hq hj
    · rw [show (16 * tbN ρ q (j / 16) + j % 16) / 64 = tbN ρ q (j / 16) / 4 by omega]
      intro e
      rw [e, k3] at v4
      exact absurd v4 (by decide)
  · intro g hg
    rw [eu, xo 9 (by decide), mo 2 (by decide)]
    exact hG.2.1 g hg
  · intro g u hg hu h3
    rw [mo 2 (by decide)] at h3
    rw [wr_at (by omega), wr_at (by omega)]
    by_cases e : 64 * g + u = 64 * f + w
    · rw [e, upd_eq, upd_eq]
    · rw [upd_ne e, upd_ne e]; exact hG.2.2 g u hg hu h3
theorem pgset {σ ρ σ' ρ' : KS} {p k f f2 : Nat} (h : Rl σ ρ) (hp : p < 16) (hk : k < bk ρ p) (hf : f = pgN ρ p k) (hu : 2 ≤ usr ρ f) (f21 : f2 < 128) (hkf : ρ.1 2 f2 = 0)
    (x9 : σ'.1 9 = upd (upd (σ.1 9) f2 1) f (nI (usr ρ f - 1))) (xo : ∀ j, j ≠ 4 → j ≠ 5 → j ≠ 8 → j ≠ 9 → σ'.1 j = σ.1 j)
    (x8 : ∀ z, z / 64 ≠ f2 → z ≠ 16 * tbN ρ p (k / 16) + k % 16 → σ'.1 8 z = σ.1 8 z) (x8t : σ'.1 8 (16 * tbN ρ p (k / 16) + k % 16) = nI f2) (x8w : ∀ w, w < 64 → σ'.1 8 (64 * f2 + w) = ρ'.1 4 (64 * f2 + w))
    (m11 : ρ'.1 11 = upd (ρ.1 11) (256 * p + k) (nI f2)) (m4 : ∀ z, z / 64 ≠ f2 → ρ'.1 4 z = ρ.1 4 z) (mo : ∀ j, j ≠ 1 → j ≠ 2 → j ≠ 4 → j ≠ 11 → ρ'.1 j = ρ.1 j) (m2 : ∀ j, j < 128 → ρ'.1 2 j = if j = f2 then nI 3 else ρ.1 2 j)
    (cb : cB σ' (zs ρ')) (cr : canR (ρ'.1 1) (zs ρ')) (hS' : rS σ' ρ') : Rl σ' ρ' := by
  obtain ⟨⟨-, -, hP1, hP2, hO⟩, hD, hK, hP, hQ, hT, hG, hS⟩ := id h
  have b5 := (hP p hp).2.2.2.2.1
  have f1 : f < 128 := by rw [hf]; exact (hG.1 p k hp hk).1
  have k3 : ρ.1 2 f = nI 3 := (hG.2.1 f f1).2.mpr (by omega)
  have hff : f ≠ f2 := fun e => by rw [e, hkf] at k3; exact absurd k3 (by decide)
  have kvv : ∀ v, v = 1 ∨ v = 2 ∨ v = 4 → kv v ρ ρ' := by
    intro v hv i hi
    rw [m2 i hi]
    by_cases q : i = f2
    · rw [if_pos q, q, hkf]
      rcases hv with rfl | rfl | rfl <;> decide
    · rw [if_neg q]
  have nf : ∀ g v, v = 1 ∨ v = 2 → ρ.1 2 g = nI v → g ≠ f2 := fun g v hv e q => by
    rw [q, hkf] at e
    rcases hv with rfl | rfl <;> exact absurd e (by decide)
  obtain ⟨t1, -, -, t4, -⟩ := hT.1 p (k / 16) hp (by omega)
  obtain ⟨tab, htab⟩ : ∃ t, t = tbN ρ p (k / 16) := ⟨_, rfl⟩
  rw [← htab] at x8 x8t t1 t4
  have ebk : ∀ q, bk ρ' q = bk ρ q := fun q => by unfold bk; rw [mo 7 (by decide) (by decide) (by decide) (by decide)]
  have bl : ∀ q, q < 16 → bk ρ q ≤ 256 := fun q hq => (hP q hq).2.2.2.2.1
  have epk : pgN ρ' p k = f2 := by unfold pgN; rw [m11, upd_eq, nI_cl (by omega)]
  have epg : ∀ q j, q < 16 → j < bk ρ q → ¬ (q = p ∧ j = k) → pgN ρ' q j = pgN ρ q j := fun q j hq hj hne => by
    unfold pgN
    rw [m11, upd_ne (by
      intro e
      have := bl q hq
      have e1 : q = p := by omega
      exact hne ⟨e1, by subst e1; omega⟩)]
  have etb : ∀ q j, tbN ρ' q j = tbN ρ q j := fun q j => by unfold tbN; rw [mo 12 (by decide) (by decide) (by decide) (by decide)]
  have erc : ∀ q, rcN ρ' q = rcN ρ q := fun q => by unfold rcN; rw [mo 10 (by decide) (by decide) (by decide) (by decide)]
  have u2 : usr ρ f2 = 0 := by
    refine Classical.byContradiction fun q => ?_
    have := (hG.2.1 f2 f21).2.mpr (by omega)
    rw [hkf] at this
    exact absurd this (by decide)
  have eu : ∀ g, usr ρ' g + (if g = f then 1 else 0) = usr ρ g + (if g = f2 then 1 else 0) := by
    intro g
    have := usr_ch (ρ := ρ) (ρ' := ρ') hp (fun q hq hne => ⟨ebk q, fun j hj => epg q j hq hj (fun w => hne w.1)⟩) g
    rw [ebk p] at this
    have e1 := cn_split (P := fun j => pgN ρ p j = g) (Q := fun j => j = k) (n := bk ρ p)
    have e2 := cn_split (P := fun j => pgN ρ' p j = g) (Q := fun j => j = k) (n := bk ρ p)
    have e3 : cn (fun j => pgN ρ' p j = g ∧ ¬ j = k) (bk ρ p) = cn (fun j => pgN ρ p j = g ∧ ¬ j = k) (bk ρ p) := cn_congr fun j hj => by
      by_cases w : j = k
      · exact ⟨fun z => absurd w z.2, fun z => absurd w z.2⟩
      · rw [epg p j hp hj (fun z => w z.2)]
    have one : ∀ P : Nat → Prop, P k → cn (fun j => P j ∧ j = k) (bk ρ p) = 1 := fun P hPk => by
      have := cn_one (P := fun _ => False) (Q := fun j => P j ∧ j = k) (f := k) (n := bk ρ p) hk id ⟨hPk, rfl⟩ (fun i _ hne => ⟨False.elim, fun w => hne w.2⟩)
      rw [this, cn_0 (fun _ _ => id)]
    have zer : ∀ P : Nat → Prop, ¬ P k → cn (fun j => P j ∧ j = k) (bk ρ p) = 0 := fun P hPk => cn_0 fun j _ w => hPk (by rw [← w.2]; exact w.1)
    by_cases a : g = f
    · have b : g ≠ f2 := fun w => hff (by rw [← a, w])
      have o1 := one (fun j => pgN ρ p j = g) (by show pgN ρ p k = g; rw [a]; exact hf.symm)
      have o2 := zer (fun j => pgN ρ' p j = g) (by show ¬ pgN ρ' p k = g; rw [epk]; exact fun w => b w.symm)
      rw [if_pos a, if_neg b]
      omega
    · have o1 := zer (fun j => pgN ρ p j = g) (by show ¬ pgN ρ p k = g; rw [← hf]; exact fun w => a w.symm)
      rw [if_neg a]
      by_cases b : g = f2
      · have o2 := one (fun j => pgN ρ' p j = g) (by show pgN ρ' p k = g; rw [epk, b])
        rw [if_pos b]
        omega
      · have o2 := zer (fun j => pgN ρ' p j = g) (by show ¬ pgN ρ' p k = g; rw [epk]; exact fun w => b w.symm)
        rw [if_neg b]
        omega
  have rec8 : ∀ q t, q < 16 → ¬ ρ.1 6 q = 0 → t < 16 → σ'.1 8 (16 * rcN ρ q + t) = σ.1 8 (16 * rcN ρ q + t) := by
    intro q t hq hn ht
    obtain ⟨-, -, -, -, q5⟩ := hQ.1 q hq hn
    refine x8 _ ?_ ?_
    · rw [show (16 * rcN ρ q + t) / 64 = rcN ρ q / 4 by omega]; exact nf _ 1 (Or.inl rfl) q5
    · intro e
      have : rcN ρ q / 4 = tab / 4 := by omega
      rw [this, t4] at q5
      exact absurd q5 (by decide)
  refine ⟨⟨cb, cr, hP1.kv (xo 6 (by decide) (by decide) (by decide) (by decide)) (mo 3 (by decide) (by decide) (by decide) (by decide)) (kvv 1 (by decide)), hP2.kv (xo 7 (by decide) (by decide) (by decide) (by decide)) (mo 3 (by decide) (by decide) (by decide) (by decide)) (kvv 2 (by decide)), hO.kv (mo 3 (by decide) (by decide) (by decide) (by decide)) (kvv 1 (by decide)) (kvv 2 (by decide))⟩, ?_, hK.kv (xo 10 (by decide) (by decide) (by decide) (by decide)) (mo 5 (by decide) (by decide) (by decide) (by decide)) (kvv 4 (by decide)), hP.cong (fun j hj => xo j (by revert j; decide) (by revert j; decide) (by revert j; decide) (by revert j; decide)) (fun j hj => mo j (by revert j; decide) (by revert j; decide) (by revert j; decide) (by revert j; decide)), hQ.kv (xo 15 (by decide) (by decide) (by decide) (by decide)) (fun j hj => mo j (by revert j; decide) (by revert j; decide) (by revert j; decide) (by revert j; decide)) (kvv 1 (by decide)), ⟨?_, ?_⟩, ⟨?_, ?_, ?_⟩, hS'⟩
  · intro i hi
    rw [m2 i hi]
    split
    · exact ⟨3, by decide, rfl⟩
    · exact hD i hi
  · intro q t hq ht
    rw [ebk] at ht
    obtain ⟨u1, u2, u3, u4, u5⟩ := hT.1 q t hq ht
    have := bl q hq
    have hn : ¬ ρ.1 6 q = 0 := fun e => by have := (hP q hq).2.2.2.2.2.1 (by rw [e]; decide); omega
    rw [etb, erc, mo 12 (by decide) (by decide) (by decide) (by decide), mo 3 (by decide) (by decide) (by decide) (by decide), rec8 q t hq hn (by omega)]
    exact ⟨u1, u2, u3, (kvv 2 (by decide) _ (by omega)).mpr u4, u5⟩
  · intro q t q' t' hq hq' ht ht' e
    rw [ebk] at ht ht'
    rw [etb, etb] at e
    exact hT.2 q t q' t' hq hq' ht ht' e
  · intro q j hq hj
    rw [ebk] at hj
    have := bl q hq
    by_cases e : q = p ∧ j = k
    · obtain ⟨rfl, rfl⟩ := e
      rw [epk, etb, ← htab, m11, upd_eq]
      exact ⟨f21, rfl, x8t⟩
    · obtain ⟨u1, u2, u3⟩ := hG.1 q j hq hj
      obtain ⟨v1, -, -, v4, -⟩ := hT.1 q (j / 16) hq (by omega)
      rw [epg q j hq hj e, etb, m11, upd_ne (by
        intro z
        have e1 : q = p := by omega
        exact e ⟨e1, by subst e1; omega⟩), x8]
      · exact ⟨u1, u2, u3⟩
      · rw [show (16 * tbN ρ q (j / 16) + j % 16) / 64 = tbN ρ q (j / 16) / 4 by omega]; exact nf _ 2 (Or.inr rfl) v4
      · intro z
        have e1 : tbN ρ q (j / 16) = tab := by omega
        obtain ⟨w1, w2⟩ := hT.2 q (j / 16) p (k / 16) hq hp (by omega) (by omega) (by rw [e1, htab])
        exact e ⟨w1, by omega⟩
  · intro g hg
    obtain ⟨g1, g2⟩ := hG.2.1 g hg
    have e := eu g
    rw [x9, m2 g hg]
    by_cases a : g = f
    · have b : g ≠ f2 := fun w => hff (by rw [← a, w])
      rw [if_pos a, if_neg b] at e
      rw [a, upd_eq, if_neg hff]
      rw [a] at e
      refine ⟨congrArg nI (by omega), fun _ => by omega, fun _ => k3⟩
    · rw [if_neg a] at e
      rw [upd_ne a]
      by_cases b : g = f2
      · rw [if_pos b] at e
        rw [b, upd_eq, if_pos rfl]
        rw [b, u2] at e
        refine ⟨?_, fun _ => by omega, fun _ => rfl⟩
        rw [show usr ρ' f2 = 1 by omega]
        rfl
      · rw [if_neg b] at e
        rw [upd_ne b, if_neg b, show usr ρ' g = usr ρ g by omega]
        exact ⟨g1, g2⟩
  · intro g w hg hw h3
    by_cases eg : g = f2
    · subst eg; exact x8w w hw
    · rw [m2 g hg, if_neg eg] at h3
      rw [m4 _ (by rw [show (64 * g + w) / 64 = g by omega]; exact eg), x8 _ (by rw [show (64 * g + w) / 64 = g by omega]; exact eg) (by
        intro e
        have : g = tab / 4 := by omega
        rw [this, t4] at h3
        exact absurd h3 (by decide))]
      exact hG.2.2 g w hg hw h3
/-- words are copied -/
def cpW (g : Nat → Int32) (f f2 i : Nat) : Nat → Int32 := fun z => if 64 * f2 ≤ z ∧ z < 64 * f2 + i then g (64 * f + (z - 64 * f2)) else g z
theorem cpW_0 {g : Nat → Int32} {f f2 : Nat} : cpW g f f2 0 = g := by funext z; unfold cpW; rw [if_neg (by omega)]
theorem cpW_s {g : Nat → Int32} {f f2 i : Nat} : upd (cpW g f f2 i) (64 * f2 + i) (g (64 * f + i)) = cpW g f f2 (i + 1) := by
  funext z
  by_cases e : z = 64 * f2 + i
  · subst e; rw [upd_eq]; unfold cpW; rw [if_pos (by omega), show 64 * f2 + i - 64 * f2 = i by omega]
  · rw [upd_ne e]; unfold cpW
    by_cases q : 64 * f2 ≤ z ∧ z < 64 * f2 + i
    · rw [if_pos q, if_pos (by omega)]
    · rw [if_neg q, if_neg (by omega)]
theorem cpW_f {g : Nat → Int32} {f f2 i : Nat} (h : f ≠ f2) (hi : i < 64) : cpW g f f2 i (64 * f + i) = g (64 * f + i) := by unfold cpW; rw [if_neg (by omega)]
theorem own_l {σ : KS} {x1 x2 : Int32} {f f2 : Nat} (hf : f < 128) (hf2 : f2 < 128) (hne : f ≠ f2) : ∀ (n i : Nat), i ≤ 64 → 64 < n + i →
    f_X2_ownPage_43 n x1 x2 (nI f) (nI f2) (nI i) (setA σ 8 (cpW (σ.1 8) f f2 i)) = bnd (m_X2_dropPageFrame (nI f) (setA σ 8 (cpW (σ.1 8) f f2 64))) (fun _ σ_81 => bnd (m_X2_pageIndex x1 x2 σ_81) (fun r_88 σ_88 => bnd (m_X2_setWord r_88 (nI f2) σ_88) (fun _ σ_93 => some (1, (sv σ_93 1 ((gv σ_93 1) + 1)))))) := by
  intro n
  induction n with
  | zero => intro i a b; omega
  | succ n ih =>
    intro i a b
    rw [f_X2_ownPage_43]
    by_cases e : i = 64
    · subst e; rw [if_pos (show (64 : Int32) ≤ nI 64 from nI_le (a := 64) (by omega) (by omega))]
    · rw [if_neg (show ¬ (64 : Int32) ≤ nI i from nI_ge (b := 64) (by omega) (by omega)), show nI f * 64 + nI i = nI (64 * f + i) by rw [q64, pk_mul, nI_add, Nat.mul_comm], show nI f2 * 64 + nI i = nI (64 * f2 + i) by rw [q64, pk_mul, nI_add, Nat.mul_comm], bnd_eq (wordAt_t (by omega)), setA_at, cpW_f hne (by omega), bnd_eq (setWord_t (by omega)), setA_wr (by omega), cpW_s, show nI i + 1 = nI (i + 1) from nI_1 i]
      exact ih (i + 1) (by omega) (by omega)
theorem storeM_l {ρ : KS} {x1 x3 : Int32} {a f f2 kk : Nat} (ha : a < 2 ^ 31) (hkk : kk < 4096) (hf : f < 128) (hf2 : f2 < 128) (hne : f ≠ f2) : ∀ (n i : Nat), i ≤ 64 → 64 < n + i →
    f_X3_store_78 n x1 (nI a) x3 (nI kk) (nI f) (nI f2) (nI i) (setA ρ 4 (cpW (ρ.1 4) f f2 i)) = some (0, wr (wr (sv (setA ρ 4 (cpW (ρ.1 4) f f2 64)) 1 (ρ.2 1 + 1)) 11 (nI kk) (nI f2)) 4 (nI (64 * f2 + a % 64)) x3) := by
  intro n
  induction n with
  | zero => intro i a b; omega
  | succ n ih =>
    intro i b c
    have hm : nI a - nI a / 64 * 64 = nI (a % 64) := by rw [q64, pk_rem ha (by decide) (by decide)]
    rw [f_X3_store_78, hm, show ∀ y, (64 : Int32) * nI f2 + nI y = nI (64 * f2 + y) from fun y => by rw [q64, pk_mul, nI_add], show ∀ y, (64 : Int32) * nI f + nI y = nI (64 * f + y) from fun y => by rw [q64, pk_mul, nI_add], show ∀ y, (64 : Int32) * nI f2 + nI y = nI (64 * f2 + y) from fun y => by rw [q64, pk_mul, nI_add]]
    by_cases e : i = 64
    · subst e
      rw [if_pos (show (64 : Int32) ≤ nI 64 from nI_le (a := 64) (by omega) (by omega)), chk_nI hkk (by decide), chk_nI (by omega) (by decide)]
      rfl
    · rw [if_neg (show ¬ (64 : Int32) ≤ nI i from nI_ge (b := 64) (by omega) (by omega)), chk_nI (by omega) (by decide), chk_nI (by omega) (by decide), rd_nI (by omega), setA_at, cpW_f hne (by omega), setA_wr (by omega), cpW_s, show nI i + 1 = nI (i + 1) from nI_1 i]
      exact ih (i + 1) (by omega) (by omega)
