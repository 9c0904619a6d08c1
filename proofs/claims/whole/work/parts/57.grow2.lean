/-! PURE: grow: a page more -/
def zrW (g : Nat → Int32) (f i : Nat) : Nat → Int32 := fun z => if 64 * f ≤ z ∧ z < 64 * f + i then 0 else g z
theorem zrW_0 {g : Nat → Int32} {f : Nat} : zrW g f 0 = g := by funext z; unfold zrW; rw [if_neg (by omega)]
theorem zrW_s {g : Nat → Int32} {f i : Nat} : upd (zrW g f i) (64 * f + i) 0 = zrW g f (i + 1) := by
  funext z
  by_cases e : z = 64 * f + i
  · subst e; rw [upd_eq]; unfold zrW; rw [if_pos (by omega)]
  · rw [upd_ne e]; unfold zrW
    by_cases q : 64 * f ≤ z ∧ z < 64 * f + i
    · rw [if_pos q, if_pos (by omega)]
    · rw [if_neg q, if_neg (by omega)]
theorem zrW_in {g : Nat → Int32} {f w : Nat} (h : w < 64) : zrW g f 64 (64 * f + w) = 0 := by unfold zrW; rw [if_pos (by omega)]
theorem zrW_out {g : Nat → Int32} {f z : Nat} (h : z / 64 ≠ f) : zrW g f 64 z = g z := by unfold zrW; rw [if_neg (by omega)]
theorem add_l {σ : KS} {x1 x2 x3 : Int32} {f : Nat} (hf : f < 128) : ∀ (n i : Nat), i ≤ 64 → 64 < n + i →
    f_X2_addPage_55 n x1 x2 x3 (nI f) (nI i) (setA σ 8 (zrW (σ.1 8) f i)) = bnd (m_X2_pageIndex x1 x2 (setA σ 8 (zrW (σ.1 8) f 64))) (fun r_85 σ_85 => bnd (m_X2_setWord r_85 (nI f) σ_85) (fun _ σ_90 => chk x1 16 (some (1, (wr σ_90 14 x1 (x2 + 1)))))) := by
  intro n
  induction n with
  | zero => intro i a b; omega
  | succ n ih =>
    intro i a b
    rw [f_X2_addPage_55]
    by_cases e : i = 64
    · subst e; rw [if_pos (show (64 : Int32) ≤ nI 64 from nI_le (a := 64) (by omega) (by omega))]
    · rw [if_neg (show ¬ (64 : Int32) ≤ nI i from nI_ge (b := 64) (by omega) (by omega)), show nI f * 64 + nI i = nI (64 * f + i) by rw [q64, pk_mul, nI_add, Nat.mul_comm], bnd_eq (setWord_t (by omega)), setA_wr (by omega), zrW_s, show nI i + 1 = nI (i + 1) from nI_1 i]
      exact ih (i + 1) (by omega) (by omega)
/-- the frame of a new page, when its table is there -/
theorem gfr {σ τ ρ : KS} {p k tab : Nat} (h : Rl σ τ) (hρ : ∀ j ∈ [1, 2], ρ.1 j = τ.1 j) (hp : p < 16) (hl : τ.1 6 p = 1) (hb : bk τ p = k) (hk : k < 256)
    (t1 : tab < 512) (t3 : τ.1 3 tab = 1) (t4 : τ.1 2 (tab / 4) = nI 2) (t12 : τ.1 12 (16 * p + k / 16) = nI tab) (t8 : σ.1 8 (16 * rcN τ p + k / 16) = nI tab) (tn : k % 16 = 0 → ∀ q t, q < 16 → 16 * t < bk τ q → tbN τ q t ≠ tab) (x3 : Int32) :
    (m_X2_takePageFrame σ = some (-1, σ) ∧ m_X3_takeFrame 3 ρ = some (-1, ρ)) ∨
    ∃ f σ2 σ3 ρ2 τ3, f < 128 ∧ m_X2_takePageFrame σ = some (nI f, σ2) ∧ m_X3_takeFrame 3 ρ = some (nI f, ρ2) ∧ f_X2_addPage_55 FU (nI p) (nI k) x3 (nI f) 0 σ2 = some (1, σ3) ∧ sam [1, 2] ρ ρ2 ∧ Rl σ3 τ3 ∧ τ.1 2 f = 0 ∧ (∀ j ∈ [1, 2], τ3.1 j = ρ2.1 j) ∧ τ3.1 2 = upd (τ.1 2) f (nI 3) ∧ τ3.1 4 = zrW (τ.1 4) f 64 ∧ τ3.1 7 = upd (τ.1 7) p (nI (k + 1)) ∧ τ3.1 11 = upd (τ.1 11) (256 * p + k) (nI f) ∧ (∀ j, j ≠ 1 → j ≠ 2 → j ≠ 4 → j ≠ 7 → j ≠ 11 → τ3.1 j = τ.1 j) ∧ τ3.2 = τ.2 ∧
      (∀ j, j ≠ 4 → j ≠ 5 → j ≠ 8 → j ≠ 9 → j ≠ 14 → σ3.1 j = σ.1 j) ∧ σ3.2 = σ.2 := by
  obtain ⟨hB, hD, hK, hP, hQ, hT, hG, hS⟩ := id h
  have ezρ : zs ρ = zs τ := by unfold zs; rw [hρ 2 (by decide)]
  obtain ⟨r, σ2, ρ2, p1, p2, hc⟩ := pairF (σ := σ) (ρ := ρ) (by rw [ezρ]; exact hB.1) (by rw [ezρ, hρ 1 (by decide)]; exact hB.2.1)
  rcases hc with ⟨rfl, rfl, rfl⟩ | ⟨f, f1, rfl, hk0, xo2, x92, xs2, s2, e22, cb2, cr2⟩
  · left; exact ⟨p1, p2⟩
  · right
    rw [hρ 2 (by decide)] at hk0 e22
    obtain ⟨q1, -, q3, -, q5⟩ := hQ.1 p hp (by rw [hl]; decide)
    have rcf : rcN τ p / 4 ≠ f := fun e => by rw [e, hk0] at q5; exact absurd q5 (by decide)
    have tbf : tab / 4 ≠ f := fun e => by rw [e, hk0] at t4; exact absurd t4 (by decide)
    have u0 : usr τ f = 0 := by
      refine Classical.byContradiction fun q => ?_
      have := (hG.2.1 f f1).2.mpr (by omega)
      rw [hk0] at this
      exact absurd this (by decide)
    -- the class
    obtain ⟨σa, hσa⟩ : ∃ z, z = setA σ2 8 (zrW (σ2.1 8) f 64) := ⟨_, rfl⟩
    have y8 : σa.1 8 = zrW (σ.1 8) f 64 := by rw [hσa, setA_at, xo2 8 (by decide) (by decide) (by decide)]
    have yo : ∀ j, j ≠ 8 → σa.1 j = σ2.1 j := fun j hj => by rw [hσa, setA_ne hj]
    have w15 : σa.1 15 p = nI (rcN τ p) := by rw [yo 15 (by decide), xo2 15 (by decide) (by decide) (by decide)]; exact q3
    have w8 : σa.1 8 (16 * rcN τ p + k / 16) = nI tab := by rw [y8, zrW_out (by omega)]; exact t8
    have hpi := pageIndex_t (k := k) hp hk w15 q1 w8
    obtain ⟨σ3, hσ3⟩ : ∃ z, z = wr (wr σa 8 (nI (16 * tab + k % 16)) (nI f)) 14 (nI p) (nI (k + 1)) := ⟨_, rfl⟩
    have hadd : f_X2_addPage_55 FU (nI p) (nI k) x3 (nI f) 0 σ2 = some (1, σ3) := by
      have := add_l (σ := σ2) (x1 := nI p) (x2 := nI k) (x3 := x3) f1 FU 0 (by omega) (by decide)
      rw [zrW_0, setA_self, ← hσa, bnd_eq hpi, bnd_eq (setWord_t (by omega)), chk_nI hp (by decide), show nI k + 1 = nI (k + 1) from nI_1 k, ← hσ3] at this
      exact this
    have z8 : σ3.1 8 = upd (zrW (σ.1 8) f 64) (16 * tab + k % 16) (nI f) := by rw [hσ3, wr_ne (by decide), wr_at (by omega), y8]
    have z14 : σ3.1 14 = upd (σ.1 14) p (nI (k + 1)) := by rw [hσ3, wr_at (by omega), wr_ne (by decide), yo 14 (by decide), xo2 14 (by decide) (by decide) (by decide)]
    have zo : ∀ j, j ≠ 8 → j ≠ 14 → σ3.1 j = σ2.1 j := fun j a b => by rw [hσ3, wr_ne b, wr_ne a, yo j a]
    -- in thought
    obtain ⟨τ3, hτ3⟩ : ∃ z : KS, z = (fun j => if j = 1 ∨ j = 2 then ρ2.1 j else if j = 4 then zrW (τ.1 4) f 64 else if j = 7 then upd (τ.1 7) p (nI (k + 1)) else if j = 11 then upd (τ.1 11) (256 * p + k) (nI f) else τ.1 j, τ.2) := ⟨_, rfl⟩
    have m12 : ∀ j ∈ [1, 2], τ3.1 j = ρ2.1 j := fun j hj => by rw [hτ3]; show (if _ then _ else _) = _; rw [if_pos (by revert j; decide)]
    have m4 : τ3.1 4 = zrW (τ.1 4) f 64 := by rw [hτ3]; rfl
    have m7 : τ3.1 7 = upd (τ.1 7) p (nI (k + 1)) := by rw [hτ3]; rfl
    have m11 : τ3.1 11 = upd (τ.1 11) (256 * p + k) (nI f) := by rw [hτ3]; rfl
    have mo : ∀ j, j ≠ 1 → j ≠ 2 → j ≠ 4 → j ≠ 7 → j ≠ 11 → τ3.1 j = τ.1 j := fun j a b c d e => by
      rw [hτ3]; show (if _ then _ else _) = _
      rw [if_neg (by omega), if_neg c, if_neg d, if_neg e]
    have m2 : τ3.1 2 = upd (τ.1 2) f (nI 3) := by rw [m12 2 (by decide), e22]
    have ez3 : zs τ3 = zs ρ2 := by unfold zs; rw [m12 2 (by decide)]
    have hR3 : Rl σ3 τ3 := pgadd (tab := tab) h hp hl hb hk f1 (Or.inl hk0) t1 t3 t4 t12 t8 tn z14 (by rw [zo 9 (by decide) (by decide), x92, u0]; rfl) (fun j a b c d e => by rw [zo j c e, xo2 j a b d]) (by rw [hσ3, wr_2, wr_2, hσa, setA_2]; exact xs2)
      (fun z hz hz2 => by rw [z8, upd_ne hz2, zrW_out hz]) (by rw [z8, upd_eq]) (fun w hw => by rw [z8, upd_ne (by omega), zrW_in hw, m4, zrW_in hw]) m7 m11 (fun z hz => by rw [m4, zrW_out hz]) mo (by rw [hτ3])
      (fun j hj => by
        rw [m2]
        by_cases e : j = f
        · rw [e, upd_eq, if_pos rfl]
        · rw [upd_ne e, if_neg e])
      (by rw [ez3]; exact cb2.same (zo 4 (by decide) (by decide)) (zo 5 (by decide) (by decide))) (by rw [ez3, m12 1 (by decide)]; exact cr2)
    exact ⟨f, σ2, σ3, ρ2, τ3, f1, p1, p2, hadd, s2, hR3, hk0, m12, m2, m4, m7, m11, mo, by rw [hτ3], fun j a b c d e => by rw [zo j c e, xo2 j a b d], by rw [hσ3, wr_2, wr_2, hσa, setA_2]; exact xs2⟩
/-- the class's state and the state in thought, k pages being there of which those from b on are new -/
def gA (p b k : Nat) (σ0 ρ0 σ τ : KS) : Prop := Rl σ τ ∧ τ.1 6 p = 1 ∧ τ.1 7 = upd (ρ0.1 7) p (nI k) ∧ τ.2 = ρ0.2 ∧ (∀ j ∈ [5, 6, 8, 9, 10, 13, 14, 15, 16], τ.1 j = ρ0.1 j) ∧
  (∀ q j, q < 16 → j < 256 → q ≠ p ∨ j < b → τ.1 11 (256 * q + j) = ρ0.1 11 (256 * q + j)) ∧ (∀ q t, q < 16 → t < 16 → q ≠ p ∨ 16 * t < b → τ.1 12 (16 * q + t) = ρ0.1 12 (16 * q + t)) ∧
  (∀ r, (∀ t, b ≤ 16 * t → 16 * t < k → tbN τ p t ≠ r) → τ.1 3 r = ρ0.1 3 r) ∧ (∀ t, b ≤ 16 * t → 16 * t < k → ρ0.1 3 (tbN τ p t) = 0) ∧
  (∀ f, f < 128 → τ.1 2 f = ρ0.1 2 f ∨ ρ0.1 2 f = 0) ∧
  (∀ j, b ≤ j → j < k → ρ0.1 2 (pgN τ p j) = 0 ∧ ∀ w, w < 64 → τ.1 4 (64 * pgN τ p j + w) = 0) ∧ (∀ z, (∀ j, b ≤ j → j < k → pgN τ p j ≠ z / 64) → τ.1 4 z = ρ0.1 4 z) ∧
  (∀ j ∈ [6, 10, 11, 12, 13, 15, 16], σ.1 j = σ0.1 j) ∧ σ.2 = σ0.2
/-- the reference's own state -/
def gR (p b : Nat) (ρ0 ρ : KS) : Prop := (∀ j ∈ [4, 5, 6, 7, 8, 9, 10, 13, 14, 15, 16], ρ.1 j = ρ0.1 j) ∧ ρ.2 = ρ0.2 ∧ (∀ q j, q < 16 → j < 256 → q ≠ p ∨ j < b → ρ.1 11 (256 * q + j) = ρ0.1 11 (256 * q + j)) ∧ (∀ q t, q < 16 → t < 16 → q ≠ p ∨ 16 * t < b → ρ.1 12 (16 * q + t) = ρ0.1 12 (16 * q + t))
theorem gstep {σ0 ρ0 σ τ ρ : KS} {p b k : Nat} (h : gA p b k σ0 ρ0 σ τ) (hr : gR p b ρ0 ρ) (hρ : ∀ j ∈ [1, 2, 3, 11, 12], ρ.1 j = τ.1 j) (hp : p < 16) (hk : k < 256) (hbk : b ≤ k) :
    (∃ σ' τ' ρ', m_X2_addPage (nI p) (nI k) σ = some (1, σ') ∧ (∀ n x2 x3 x5, ¬ 0 ≤ lg_cmp (nI k).toInt64 x3 → f_X3_grow_85 (n + 1) (nI p) x2 x3 x5 (nI k) ρ = f_X3_grow_85 n (nI p) x2 x3 x5 (nI (k + 1)) ρ') ∧ gA p b (k + 1) σ0 ρ0 σ' τ' ∧ gR p b ρ0 ρ' ∧ ∀ j ∈ [1, 2, 3, 11, 12], ρ'.1 j = τ'.1 j) ∨
    (∃ σ' τ' ρ', m_X2_addPage (nI p) (nI k) σ = some (0, σ') ∧ (∀ n x2 x3 x5, ¬ 0 ≤ lg_cmp (nI k).toInt64 x3 → f_X3_grow_85 (n + 1) (nI p) x2 x3 x5 (nI k) ρ = bnd (m_X3_fail ρ') (fun r s => some (r, s))) ∧ gA p b k σ0 ρ0 σ' τ' ∧ gR p b ρ0 ρ') := by
  obtain ⟨hR, hl, h7, h2, ho, h11, h12, hu, hu0, hkd, hpg, hw, hx, hxs⟩ := id h
  obtain ⟨r1, r2, r3, r4⟩ := hr
  have hb : bk τ p = k := by unfold bk; rw [h7, upd_eq, nI_cl (by omega)]
  have hQ := hR.2.2.2.2.1
  have hT := hR.2.2.2.2.2.1
  obtain ⟨q1, q2, q3, q4, q5⟩ := hQ.1 p hp (by rw [hl]; decide)
  have hmod : nI k - nI k / 16 * 16 = nI (k % 16) := by rw [q16, pk_rem (by omega) (by decide) (by decide)]
  have hdiv : nI k / 16 = nI (k / 16) := by rw [q16, pk_div (by omega) (by decide) (by decide)]
  have hix : (16 : Int32) * nI p + nI (k / 16) = nI (16 * p + k / 16) := by rw [q16, pk_mul, nI_add]
  have hix2 : (256 : Int32) * nI p + nI k = nI (256 * p + k) := by rw [q256, pk_mul, nI_add]
  have fin : ∀ (τ1 σ3 τ3 : KS) (f tab : Nat), Rl σ3 τ3 → τ1.1 2 f = 0 → f < 128 → tab < 512 →
      (∀ j, j ≠ 1 → j ≠ 2 → j ≠ 3 → j ≠ 12 → τ1.1 j = τ.1 j) → τ1.2 = τ.2 → (∀ j, j ≠ 16 * p + k / 16 → τ1.1 12 j = τ.1 12 j) → τ1.1 12 (16 * p + k / 16) = nI tab → (∀ g, g < 128 → τ1.1 2 g = τ.1 2 g ∨ τ.1 2 g = 0) →
      ((k % 16 = 0 ∧ τ1.1 3 = upd (τ.1 3) tab 1 ∧ τ.1 3 tab = 0) ∨ (¬ k % 16 = 0 ∧ τ1.1 3 = τ.1 3 ∧ tab = tbN τ p (k / 16))) →
      τ3.1 2 = upd (τ1.1 2) f (nI 3) → τ3.1 4 = zrW (τ1.1 4) f 64 → τ3.1 7 = upd (τ1.1 7) p (nI (k + 1)) → τ3.1 11 = upd (τ1.1 11) (256 * p + k) (nI f) → (∀ j, j ≠ 1 → j ≠ 2 → j ≠ 4 → j ≠ 7 → j ≠ 11 → τ3.1 j = τ1.1 j) → τ3.2 = τ1.2 →
      (∀ j ∈ [6, 10, 11, 12, 13, 15, 16], σ3.1 j = σ.1 j) → σ3.2 = σ.2 → gA p b (k + 1) σ0 ρ0 σ3 τ3 := by
    intro τ1 σ3 τ3 f tab hR3 hkf f1 ht1 ao as a12 a12' akd a3 e2 e4 e7 e11 eo es x3 xs3
    have etb : ∀ t, t < 16 → t ≠ k / 16 → tbN τ3 p t = tbN τ p t := fun t ht hne => by unfold tbN; rw [eo 12 (by decide) (by decide) (by decide) (by decide) (by decide), a12 _ (by omega)]
    have etk : tbN τ3 p (k / 16) = tab := by unfold tbN; rw [eo 12 (by decide) (by decide) (by decide) (by decide) (by decide), a12', nI_cl (by omega)]
    have epg : ∀ j, j < k → pgN τ3 p j = pgN τ p j := fun j hj => by unfold pgN; rw [e11, upd_ne (by omega), ao 11 (by decide) (by decide) (by decide) (by decide)]
    have epk : pgN τ3 p k = f := by unfold pgN; rw [e11, upd_eq, nI_cl (by omega)]
    have hkf0 : ρ0.1 2 f = 0 := by
      rcases akd f f1 with w | w
      · rw [hkf] at w
        rcases hkd f f1 with z | z
        · rw [← z, ← w]
        · exact z
      · rcases hkd f f1 with z | z
        · rw [← z]; exact w
        · exact z
    refine ⟨hR3, ?_, ?_, ?_, ?_, ?_, ?_, ?_, ?_, ?_, ?_, ?_, ?_, ?_⟩
    · rw [eo 6 (by decide) (by decide) (by decide) (by decide) (by decide), ao 6 (by decide) (by decide) (by decide) (by decide)]; exact hl
    · rw [e7, ao 7 (by decide) (by decide) (by decide) (by decide), h7]
      funext j
      by_cases e : j = p
      · rw [e, upd_eq, upd_eq]
      · rw [upd_ne e, upd_ne e, upd_ne e]
    · rw [es, as]; exact h2
    · intro j hj
      rw [eo j (by revert j; decide) (by revert j; decide) (by revert j; decide) (by revert j; decide) (by revert j; decide), ao j (by revert j; decide) (by revert j; decide) (by revert j; decide) (by revert j; decide)]
      exact ho j hj
    · intro q j hq hj hc
      rw [e11, upd_ne (by omega), ao 11 (by decide) (by decide) (by decide) (by decide)]
      exact h11 q j hq hj hc
    · intro q t hq ht hc
      rw [eo 12 (by decide) (by decide) (by decide) (by decide) (by decide), ← h12 q t hq ht hc]
      by_cases e : 16 * q + t = 16 * p + k / 16
      · have e1 : q = p := by omega
        have e2 : t = k / 16 := by omega
        subst e1; subst e2
        have hlt : 16 * (k / 16) < b := hc.resolve_left (fun w => w rfl)
        rcases a3 with ⟨w, -⟩ | ⟨w, -, this⟩
        · omega
        · -- the table is an old one
          obtain ⟨z1, z2, -⟩ := hT.1 q (k / 16) hq (by omega)
          rw [a12']
          rw [this]; exact z2.symm
      · rw [a12 _ e]
    · intro r hr'
      rw [eo 3 (by decide) (by decide) (by decide) (by decide) (by decide)]
      rcases a3 with ⟨w, a3', -⟩ | ⟨w, a3', this⟩
      · have hne : r ≠ tab := fun e => hr' (k / 16) (by omega) (by omega) (by rw [etk, e])
        rw [a3', upd_ne hne]
        exact hu r (fun t a b' => by rw [← etb t (by omega) (by omega)]; exact hr' t a (by omega))
      · rw [a3']
        exact hu r (fun t a b' => by
          by_cases e : t = k / 16
          · rw [e]
            rw [← this, ← etk]
            exact hr' (k / 16) (by omega) (by omega)
          · rw [← etb t (by omega) e]; exact hr' t a (by omega))
    · intro t ta tb
      by_cases e : 16 * t < k
      · by_cases e' : t = k / 16
        · rcases a3 with ⟨w, -⟩ | ⟨w, -, this⟩
          · omega
          · rw [e', etk]
            rw [this, ← e']
            exact hu0 t ta e
        · rw [etb t (by omega) e']; exact hu0 t ta e
      · have et : t = k / 16 := by omega
        rw [et, etk]
        rcases a3 with ⟨w, -, a3'⟩ | ⟨w, -⟩
        · rw [← hu tab (fun t' a b' e' => ?_)]
          · exact a3'
          · have := (hT.1 p t' hp (by omega)).2.2.1
            rw [e', a3'] at this
            exact absurd this (by decide)
        · omega
    · intro g hg
      rw [e2]
      by_cases e : g = f
      · rw [e]; exact Or.inr hkf0
      · rw [upd_ne e]
        rcases akd g hg with w | w
        · rw [w]; exact hkd g hg
        · rcases hkd g hg with z | z
          · right; rw [← z]; exact w
          · exact Or.inr z
    · intro j ja jb
      by_cases e : j = k
      · subst e
        rw [epk]
        refine ⟨hkf0, fun w hw' => by rw [e4, zrW_in hw']⟩
      · rw [epg j (by omega)]
        obtain ⟨z1, z2⟩ := hpg j ja (by omega)
        refine ⟨z1, fun w hw' => ?_⟩
        rw [e4]
        by_cases ef : pgN τ p j = f
        · rw [ef, zrW_in hw']
        · rw [zrW_out (by omega), ao 4 (by decide) (by decide) (by decide) (by decide)]; exact z2 w hw'
    · intro z hz
      have hzf : z / 64 ≠ f := fun e => hz k hbk (by omega) (by rw [epk, e])
      rw [e4, zrW_out hzf, ao 4 (by decide) (by decide) (by decide) (by decide)]
      exact hw z (fun j a b' => by rw [← epg j b']; exact hz j a (by omega))
    · intro j hj
      rw [x3 j hj]; exact hx j hj
    · rw [xs3]; exact hxs
  have suc : ∀ (σ1 τ1 ρ1 : KS) (tab : Nat) (x3 : Int32), Rl σ1 τ1 → (∀ j ∈ [1, 2, 3, 11, 12], ρ1.1 j = τ1.1 j) → gR p b ρ0 ρ1 → tab < 512 → τ1.1 3 tab = 1 → τ1.1 2 (tab / 4) = nI 2 → σ1.1 8 (16 * rcN τ p + k / 16) = nI tab → (k % 16 = 0 → ∀ q t, q < 16 → 16 * t < bk τ1 q → tbN τ1 q t ≠ tab) →
      (∀ j, j ≠ 1 → j ≠ 2 → j ≠ 3 → j ≠ 12 → τ1.1 j = τ.1 j) → τ1.2 = τ.2 → (∀ j, j ≠ 16 * p + k / 16 → τ1.1 12 j = τ.1 12 j) → τ1.1 12 (16 * p + k / 16) = nI tab → (∀ g, g < 128 → τ1.1 2 g = τ.1 2 g ∨ τ.1 2 g = 0) →
      ((k % 16 = 0 ∧ τ1.1 3 = upd (τ.1 3) tab 1 ∧ τ.1 3 tab = 0) ∨ (¬ k % 16 = 0 ∧ τ1.1 3 = τ.1 3 ∧ tab = tbN τ p (k / 16))) →
      (∀ j ∈ [6, 10, 11, 12, 13, 15, 16], σ1.1 j = σ.1 j) → σ1.2 = σ.2 →
      (m_X2_takePageFrame σ1 = some (-1, σ1) ∧ m_X3_takeFrame 3 ρ1 = some (-1, ρ1)) ∨
      ∃ f σ2 σ3 ρ2 τ3, f < 128 ∧ m_X2_takePageFrame σ1 = some (nI f, σ2) ∧ m_X3_takeFrame 3 ρ1 = some (nI f, ρ2) ∧ f_X2_addPage_55 FU (nI p) (nI k) x3 (nI f) 0 σ2 = some (1, σ3) ∧ gA p b (k + 1) σ0 ρ0 σ3 τ3 ∧ gR p b ρ0 (wr ρ2 11 (nI (256 * p + k)) (nI f)) ∧ ∀ j ∈ [1, 2, 3, 11, 12], (wr ρ2 11 (nI (256 * p + k)) (nI f)).1 j = τ3.1 j := by
    intro σ1 τ1 ρ1 tab x3 hR1 he1 hg1 ht1 ht3 ht4 ht8 htn ao as a12 a12' akd a3 x1 xs1
    have erc : rcN τ1 p = rcN τ p := by unfold rcN; rw [ao 10 (by decide) (by decide) (by decide) (by decide)]
    have ebk : bk τ1 p = k := by unfold bk; rw [ao 7 (by decide) (by decide) (by decide) (by decide)]; exact hb
    rcases gfr (ρ := ρ1) (tab := tab) hR1 (fun j hj => he1 j (by revert j; decide)) hp (by rw [ao 6 (by decide) (by decide) (by decide) (by decide)]; exact hl) ebk hk ht1 ht3 ht4 a12' (by rw [erc]; exact ht8) htn x3 with hf | ⟨f, σ2, σ3, ρ2, τ3, f1, c1, c2, c3, c4, c5, c6, c7, c8, c9, c10, c11, c12, c13, c14, c15⟩
    · exact Or.inl hf
    · right
      obtain ⟨g1, g2, g3, g4⟩ := hg1
      refine ⟨f, σ2, σ3, ρ2, τ3, f1, c1, c2, c3, ?_, ⟨fun j hj => ?_, ?_, fun q j hq hj hc => ?_, fun q t hq ht hc => ?_⟩, fun j hj => ?_⟩
      · exact fin τ1 σ3 τ3 f tab c5 c6 f1 ht1 ao as a12 a12' akd a3 c8 c9 c10 c11 c12 c13 (fun j hj => by rw [c14 j (by revert j; decide) (by revert j; decide) (by revert j; decide) (by revert j; decide) (by revert j; decide)]; exact x1 j hj) (by rw [c15]; exact xs1)
      · rw [wr_ne (by revert j; decide), c4.2 j (by revert j; decide)]; exact g1 j hj
      · rw [wr_2, c4.1]; exact g2
      · rw [wr_at (by omega), upd_ne (by omega), c4.2 11 (by decide)]; exact g3 q j hq hj hc
      · rw [wr_ne (by decide), c4.2 12 (by decide)]; exact g4 q t hq ht hc
      · by_cases e : j = 11
        · subst e
          rw [wr_at (by omega), c4.2 11 (by decide), he1 11 (by decide), c11]
        · rw [wr_ne e]
          by_cases e12 : j = 1 ∨ j = 2
          · rcases e12 with rfl | rfl
            · exact (c7 1 (by decide)).symm
            · exact (c7 2 (by decide)).symm
          · rw [c4.2 j (mem2 (fun w => e12 (Or.inl w)) (fun w => e12 (Or.inr w))), he1 j hj, c12 j (fun w => e12 (Or.inl w)) (fun w => e12 (Or.inr w)) (by revert j; decide) (by revert j; decide) e]
  by_cases hz : k % 16 = 0
  · have hz0 : nI (k % 16) = 0 := by rw [hz]; rfl
    have hkk : 16 * (k / 16) = k := by omega
    rcases pairTab (ρ := ρ) (r := rcN τ p) hR (fun j hj => hρ j (by revert j; decide)) hp hk hz q3 q1 q5 q4 (fun q hq hn e => by
        have := hQ.2 q p hq hp hn (by rw [hl]; decide) e
        rw [this, hb]; exact Nat.le_refl _) (by rw [hb]; exact Nat.le_refl _) with ⟨t1, t2⟩ | ⟨tab, σ1, ρ1, τ1, ht1, t1, t2, s1, hR1, e123, eo, es, e12, hu0', hk0', e2, e3, x1, x8, xs1⟩
    · right
      refine ⟨σ, τ, wr ρ 12 (nI (16 * p + k / 16)) (-1), ?_, fun n x2 x3 x5 hx => ?_, h, ⟨fun j hj => ?_, ?_, fun q j hq hj hc => ?_, fun q t hq ht hc => ?_⟩⟩
      · unfold m_X2_addPage
        rw [hmod, if_pos hz0, bnd_eq t1, if_pos rfl]
      · rw [f_X3_grow_85, if_neg hx, hmod, if_pos hz0, bnd_eq t2, hdiv, hix, chk_nI (by omega) (by decide), chk_nI (by omega) (by decide), rd_nI (by omega), wr_at (by omega), upd_eq, if_neg (by decide)]
      · rw [wr_ne (by revert j; decide)]; exact r1 j hj
      · rw [wr_2]; exact r2
      · rw [wr_ne (by decide)]; exact r3 q j hq hj hc
      · rw [wr_at (by omega), upd_ne (by omega)]; exact r4 q t hq ht hc
    · obtain ⟨ρ1', hρ1'⟩ : ∃ z, z = wr ρ1 12 (nI (16 * p + k / 16)) (nI tab) := ⟨_, rfl⟩
      have gr1 : gR p b ρ0 ρ1' := by
        refine ⟨fun j hj => ?_, ?_, fun q j hq hj hc => ?_, fun q t hq ht hc => ?_⟩
        · rw [hρ1', wr_ne (by revert j; decide), s1.2 j (by revert j; decide)]; exact r1 j hj
        · rw [hρ1', wr_2, s1.1]; exact r2
        · rw [hρ1', wr_ne (by decide), s1.2 11 (by decide)]; exact r3 q j hq hj hc
        · rw [hρ1', wr_at (by omega), upd_ne (by omega), s1.2 12 (by decide)]; exact r4 q t hq ht hc
      have he1 : ∀ j ∈ [1, 2, 3, 11, 12], ρ1'.1 j = τ1.1 j := by
        intro j hj
        by_cases e : j = 12
        · subst e
          rw [hρ1', wr_at (by omega), s1.2 12 (by decide), hρ 12 (by decide), e12]
        · rw [hρ1', wr_ne e]
          by_cases e3' : j = 1 ∨ j = 2 ∨ j = 3
          · exact (e123 j (by rcases e3' with rfl | rfl | rfl <;> decide)).symm
          · rw [s1.2 j (mem3 (fun w => e3' (Or.inl w)) (fun w => e3' (Or.inr (Or.inl w))) (fun w => e3' (Or.inr (Or.inr w)))), hρ j hj, eo j (fun w => e3' (Or.inl w)) (fun w => e3' (Or.inr (Or.inl w))) (fun w => e3' (Or.inr (Or.inr w))) e]
      have ut : τ1.1 3 tab = 1 := by rw [e3, upd_eq]
      have kt : τ1.1 2 (tab / 4) = nI 2 := by rw [e2, upd_eq]
      have eb1 : ∀ q, bk τ1 q = bk τ q := fun q => by unfold bk; rw [eo 7 (by decide) (by decide) (by decide) (by decide)]
      have etb1 : ∀ q t, q < 16 → 16 * t < bk τ q → tbN τ1 q t = tbN τ q t := fun q t hq ht => by
        have := (hR.2.2.2.1 q hq).2.2.2.2.1
        unfold tbN
        rw [e12, upd_ne (by
          intro e
          have e1 : q = p := by omega
          subst e1
          rw [hb] at ht
          omega)]
      have hnt : ∀ q t, q < 16 → 16 * t < bk τ1 q → tbN τ1 q t ≠ tab := fun q t hq ht e => by
        rw [eb1] at ht
        rw [etb1 q t hq ht] at e
        have := (hT.1 q t hq ht).2.2.1
        rw [e, hu0'] at this
        exact absurd this (by decide)
      have hkd1 : ∀ g, g < 128 → τ1.1 2 g = τ.1 2 g ∨ τ.1 2 g = 0 := fun g hg => by
        rw [e2]
        by_cases e : g = tab / 4
        · rw [e, upd_eq]
          rcases hk0' with w | w
          · exact Or.inl w.symm
          · exact Or.inr w
        · rw [upd_ne e]; exact Or.inl rfl
      have xk : ∀ j ∈ [6, 10, 11, 12, 13, 15, 16], σ1.1 j = σ.1 j := fun j hj => x1 j (by revert j; decide) (by revert j; decide) (by revert j; decide) (by revert j; decide)
      have hlook : ∀ n x2 x3 x5, ¬ 0 ≤ lg_cmp (nI k).toInt64 x3 → f_X3_grow_85 (n + 1) (nI p) x2 x3 x5 (nI k) ρ = bnd (m_X3_takeFrame 3 ρ1') (fun r_146 σ_146 => if 0 ≤ r_146 then chk (nI (256 * p + k)) 4096 (f_X3_grow_85 n (nI p) x2 x3 x5 (nI k + 1) (wr σ_146 11 (nI (256 * p + k)) r_146)) else bnd (m_X3_fail σ_146) (fun r_157 σ_157 => some (r_157, σ_157))) := by
        intro n x2 x3 x5 hx
        rw [f_X3_grow_85, if_neg hx, hmod, if_pos hz0, bnd_eq t2, hdiv, hix, chk_nI (by omega) (by decide), chk_nI (by omega) (by decide), ← hρ1', rd_nI (by omega), show ρ1'.1 12 (16 * p + k / 16) = nI tab by rw [hρ1', wr_at (by omega), upd_eq], if_pos (show (0 : Int32) ≤ nI tab from nI_le (a := 0) (by omega) (by omega)), hix2]
      rcases suc σ1 τ1 ρ1' tab 1 hR1 he1 gr1 ht1 ut kt (by rw [x8, upd_eq]) (fun _ => hnt) eo es (fun j hj => by rw [e12, upd_ne hj]) (by rw [e12, upd_eq]) hkd1 (Or.inl ⟨hz, e3, hu0'⟩) xk xs1 with ⟨f1, f2⟩ | ⟨f, σ2, σ3, ρ2, τ3, f1, c1, c2, c3, c4, c5, c6⟩
      · right
        obtain ⟨σ2, τ2, v1, -, sx, sm', e3', hB2, hcs⟩ := pairG_t hR1.1 ht1 ut kt
        obtain ⟨kp, kk3, kk4, kd4⟩ := give_keep (s := 2) (Or.inr rfl) ht1 ut kt e3' hcs
        have hR2 : Rl σ2 τ2 := hR1.places (Or.inr rfl) sx sm' hB2 kp kk3 kk4 kd4 (fun q hq hn e => by
            have := (hR1.2.2.2.2.1.1 q hq hn).2.2.2.2
            rw [e, kt] at this
            exact absurd this (by decide)) hnt
        have eo2 : ∀ j, j ≠ 1 → j ≠ 2 → j ≠ 3 → j ≠ 12 → τ2.1 j = τ.1 j := fun j a b c d => by rw [sm'.2 j (mem3 a b c), eo j a b c d]
        have e122 : τ2.1 12 = upd (τ.1 12) (16 * p + k / 16) (nI tab) := by rw [sm'.2 12 (by decide), e12]
        have e32 : τ2.1 3 = τ.1 3 := by
          funext z
          rw [e3']
          by_cases e : z = tab
          · rw [e, upd_eq, hu0']
          · rw [upd_ne e, e3, upd_ne e]
        have etb2 : ∀ t, 16 * t < k → tbN τ2 p t = tbN τ p t := fun t ht => by unfold tbN; rw [e122, upd_ne (by omega)]
        have epg2 : ∀ j, pgN τ2 p j = pgN τ p j := fun j => by unfold pgN; rw [eo2 11 (by decide) (by decide) (by decide) (by decide)]
        refine ⟨σ2, τ2, ρ1', ?_, fun n x2 x3 x5 hx => ?_, ⟨hR2, ?_, ?_, ?_, fun j hj => ?_, fun q j hq hj hc => ?_, fun q t hq ht hc => ?_, fun r hr' => ?_, fun t ta tb => ?_, fun g hg => ?_, fun j ja jb => ?_, fun z hz' => ?_, fun j hj => ?_, ?_⟩, gr1⟩
        · unfold m_X2_addPage
          have hdt : m_X2_dropTable (nI p) (nI k) σ1 = some (0, σ2) := by
            unfold m_X2_dropTable
            rw [bnd_eq (tableIndex_t (r := rcN τ p) hp (by omega) (by rw [x1 15 (by decide) (by decide) (by decide) (by decide)]; exact q3)), bnd_eq (wordAt_t (by omega)), x8, upd_eq, bnd_eq v1]
          rw [hmod, if_pos hz0, bnd_eq t1, if_neg (by decide), bnd_eq f1, if_pos rfl, bnd_eq hdt]
        · rw [hlook n x2 x3 x5 hx, bnd_eq f2, if_neg (by decide)]
        · rw [eo2 6 (by decide) (by decide) (by decide) (by decide)]; exact hl
        · rw [eo2 7 (by decide) (by decide) (by decide) (by decide)]; exact h7
        · rw [sm'.1, es]; exact h2
        · rw [eo2 j (by revert j; decide) (by revert j; decide) (by revert j; decide) (by revert j; decide)]; exact ho j hj
        · rw [eo2 11 (by decide) (by decide) (by decide) (by decide)]; exact h11 q j hq hj hc
        · rw [e122, upd_ne (by omega)]; exact h12 q t hq ht hc
        · rw [e32]; exact hu r (fun t a b' => by rw [← etb2 t b']; exact hr' t a b')
        · rw [etb2 t tb]; exact hu0 t ta tb
        · by_cases e : g = tab / 4
          · rcases hkd g hg with w | w
            · rcases hk0' with w' | w'
              · left
                obtain ⟨i, hi, hi1⟩ := (kd12 hR.1 hg).mp (Or.inr (by rw [e]; exact w'))
                have hne : 4 * g + i ≠ tab := fun q => by rw [q, hu0'] at hi1; exact absurd hi1 (by decide)
                have h1' : τ1.1 3 (4 * (tab / 4) + i) = 1 := by rw [← e, e3, upd_ne hne]; exact hi1
                rcases hcs with ⟨-, e2'⟩ | ⟨hall, -⟩
                · rw [e2', e2, e, upd_eq, ← w', ← e]; exact w
                · have := hall i hi (by rw [← e]; exact hne)
                  rw [h1'] at this
                  exact absurd this (by decide)
              · right
                rw [← w, e]; exact w'
            · exact Or.inr w
          · have : τ2.1 2 g = τ.1 2 g := by
              rcases hcs with ⟨-, e2'⟩ | ⟨-, e2'⟩
              · rw [e2', e2, upd_ne e]
              · rw [e2' g, if_neg e, e2, upd_ne e]
            rw [this]; exact hkd g hg
        · rw [epg2, eo2 4 (by decide) (by decide) (by decide) (by decide)]; exact hpg j ja jb
        · rw [eo2 4 (by decide) (by decide) (by decide) (by decide)]; exact hw z (fun j a b' => by rw [← epg2]; exact hz' j a b')
        · rw [sx.2 j (by revert j; decide), xk j hj]; exact hx j hj
        · rw [sx.1, xs1]; exact hxs
      · left
        refine ⟨σ3, τ3, wr ρ2 11 (nI (256 * p + k)) (nI f), ?_, fun n x2 x3 x5 hx => ?_, c4, c5, c6⟩
        · unfold m_X2_addPage
          rw [hmod, if_pos hz0, bnd_eq t1, if_neg (by decide), bnd_eq c1, if_neg (nI_m1 (by omega)), c3]
        · rw [hlook n x2 x3 x5 hx, bnd_eq c2, if_pos (show (0 : Int32) ≤ nI f from nI_le (a := 0) (by omega) (by omega)), chk_nI (by omega) (by decide), show nI k + 1 = nI (k + 1) from nI_1 k]
  · have hz0 : ¬ nI (k % 16) = 0 := fun w => hz ((nI_01 (by omega)).mp w)
    obtain ⟨z1, z2, z3, z4, z5⟩ := hT.1 p (k / 16) hp (by omega)
    have hlook : ∀ n x2 x3 x5, ¬ 0 ≤ lg_cmp (nI k).toInt64 x3 → f_X3_grow_85 (n + 1) (nI p) x2 x3 x5 (nI k) ρ = bnd (m_X3_takeFrame 3 ρ) (fun r_146 σ_146 => if 0 ≤ r_146 then chk (nI (256 * p + k)) 4096 (f_X3_grow_85 n (nI p) x2 x3 x5 (nI k + 1) (wr σ_146 11 (nI (256 * p + k)) r_146)) else bnd (m_X3_fail σ_146) (fun r_157 σ_157 => some (r_157, σ_157))) := by
      intro n x2 x3 x5 hx
      rw [f_X3_grow_85, if_neg hx, hmod, if_neg hz0, hix2]
    rcases suc σ τ ρ (tbN τ p (k / 16)) 0 hR hρ ⟨r1, r2, r3, r4⟩ z1 z3 z4 z5 (fun w => absurd w hz) (fun _ _ _ _ _ => rfl) rfl (fun _ _ => rfl) z2 (fun _ _ => Or.inl rfl) (Or.inr ⟨hz, rfl, rfl⟩) (fun _ _ => rfl) rfl with ⟨f1, f2⟩ | ⟨f, σ2, σ3, ρ2, τ3, f1, c1, c2, c3, c4, c5, c6⟩
    · right
      refine ⟨σ, τ, ρ, ?_, fun n x2 x3 x5 hx => ?_, h, ⟨r1, r2, r3, r4⟩⟩
      · unfold m_X2_addPage
        rw [hmod, if_neg hz0, bnd_eq f1, if_pos rfl]
      · rw [hlook n x2 x3 x5 hx, bnd_eq f2, if_neg (by decide)]
    · left
      refine ⟨σ3, τ3, wr ρ2 11 (nI (256 * p + k)) (nI f), ?_, fun n x2 x3 x5 hx => ?_, c4, c5, c6⟩
      · unfold m_X2_addPage
        rw [hmod, if_neg hz0, bnd_eq c1, if_neg (nI_m1 (by omega)), c3]
      · rw [hlook n x2 x3 x5 hx, bnd_eq c2, if_pos (show (0 : Int32) ≤ nI f from nI_le (a := 0) (by omega) (by omega)), chk_nI (by omega) (by decide), show nI k + 1 = nI (k + 1) from nI_1 k]
