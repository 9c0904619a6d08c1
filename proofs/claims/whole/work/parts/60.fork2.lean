/-! PURE: fork: the pages are shared -/
def cpP (g : Nat → Int32) (a c k : Nat) : Nat → Int32 := fun z => if 256 * c ≤ z ∧ z < 256 * c + k then g (256 * a + (z - 256 * c)) else g z
theorem cpP_0 {g : Nat → Int32} {a c : Nat} : cpP g a c 0 = g := by funext z; unfold cpP; rw [if_neg (by omega)]
theorem cpP_s {g : Nat → Int32} {a c k : Nat} : upd (cpP g a c k) (256 * c + k) (g (256 * a + k)) = cpP g a c (k + 1) := by
  funext z
  by_cases e : z = 256 * c + k
  · subst e; rw [upd_eq]; unfold cpP; rw [if_pos (by omega), show 256 * c + k - 256 * c = k by omega]
  · rw [upd_ne e]; unfold cpP
    by_cases q : 256 * c ≤ z ∧ z < 256 * c + k
    · rw [if_pos q, if_pos (by omega)]
    · rw [if_neg q, if_neg (by omega)]
theorem cpP_out {g : Nat → Int32} {a c k z : Nat} (h : z < 256 * c ∨ 256 * c + k ≤ z) : cpP g a c k z = g z := by unfold cpP; rw [if_neg (by omega)]
theorem cpP_oth {g : Nat → Int32} {a c k q j : Nat} (hk : k ≤ 256) (hj : j < 256) (hq : q ≠ c) : cpP g a c k (256 * q + j) = g (256 * q + j) := cpP_out (by omega)
/-- the reference's copy of the page row -/
theorem fcopy {ρ : KS} {a c b : Nat} {x3 x4 : Int32} (ha : a < 16) (hc : c < 16) (hac : a ≠ c) (hb : b ≤ 256) (h7 : ρ.1 7 c = nI b) : ∀ (d n k : Nat), k + d = b → d < n →
    f_X3_fork_131 n (nI a) (nI c) x3 x4 (nI k) (setA ρ 11 (cpP (ρ.1 11) a c k)) = some (nI c, setA ρ 11 (cpP (ρ.1 11) a c b)) := by
  intro d
  induction d with
  | zero =>
    intro n k e hn
    obtain ⟨n', rfl⟩ : ∃ n', n = n' + 1 := ⟨n - 1, by omega⟩
    have : k = b := by omega
    subst this
    rw [f_X3_fork_131, chk_nI hc (by decide), rd_nI (by omega), setA_ne (by decide), h7, if_pos (nI_le (Nat.le_refl _) (by omega))]
  | succ d ih =>
    intro n k e hn
    obtain ⟨n', rfl⟩ : ∃ n', n = n' + 1 := ⟨n - 1, by omega⟩
    rw [f_X3_fork_131, chk_nI hc (by decide), rd_nI (i := c) (by omega), setA_ne (by decide), h7, if_neg (nI_ge (by omega) (by omega)), show (256 : Int32) * nI a + nI k = nI (256 * a + k) by rw [q256, pk_mul, nI_add], show (256 : Int32) * nI c + nI k = nI (256 * c + k) by rw [q256, pk_mul, nI_add], chk_nI (by omega) (by decide), chk_nI (by omega) (by decide), rd_nI (by omega), setA_at, cpP_oth (by omega) (by omega) hac, setA_wr (by omega), cpP_s, show nI k + 1 = nI (k + 1) from nI_1 k]
    exact ih n' (k + 1) (by omega) (by omega)
theorem frameX {σ : KS} {a b k r t f : Nat} (ha : a < 16) (hb : b ≤ 256) (hk : k < b) (h11 : σ.1 11 a = 1) (h14 : σ.1 14 a = nI b) (h15 : σ.1 15 a = nI r) (hr : r < 512) (ht : t < 512) (h8 : σ.1 8 (16 * r + k / 16) = nI t) (h8' : σ.1 8 (16 * t + k % 16) = nI f) : m_X2_frameOfPage (nI a) (nI k) σ = some (nI f, σ) := by
  have hh : m_X2_hasPage (nI a) (nI k) σ = some (1, σ) := by
    unfold m_X2_hasPage
    rw [bnd_eq (isLiveX_t ha h11), if_neg (by decide), if_neg (show ¬ nI k < 0 from nI_nlt (b := 0) (by omega) (by omega)), chk_nI ha (by decide), rd_nI (by omega), h14, if_neg (show ¬ nI b ≤ nI k from nI_ge hk (by omega))]
  unfold m_X2_frameOfPage
  rw [bnd_eq hh, if_neg (by decide), bnd_eq (pageIndex_t ha (by omega) h15 hr h8), bnd_eq (wordAt_t (by omega)), h8']
/-- in thought: the class's state and the reference's, k pages shared -/
def sX (c k : Nat) (σN σ : KS) : KS := setA (setA (setA σN 8 (σ.1 8)) 9 (σ.1 9)) 14 (upd (σN.1 14) c (nI k))
def sM (a c k : Nat) (ρN : KS) : KS := setA (setA ρN 7 (upd (ρN.1 7) c (nI k))) 11 (cpP (ρN.1 11) a c k)
theorem share {σT σN ρN : KS} {a c r b : Nat} (ha : a < 16) (hc : c < 16) (hac : a ≠ c) (hb : b ≤ 256) (hr : r < 512) (hl : ρN.1 6 c = 1) (hla : ρN.1 6 a = 1) (hrc : rcN ρN c = r) (hba : bk ρN a = b)
    (xo : ∀ j, j ≠ 11 → j ≠ 12 → j ≠ 16 → σN.1 j = σT.1 j) (h11 : σT.1 11 a = 1) (h14 : σT.1 14 a = nI b) (h15 : σT.1 15 c = nI r)
    (hTab : ∀ u, 16 * u < b → tbN ρN c u < 512 ∧ ρN.1 12 (16 * c + u) = nI (tbN ρN c u) ∧ ρN.1 3 (tbN ρN c u) = 1 ∧ ρN.1 2 (tbN ρN c u / 4) = nI 2) (hTi : ∀ u v, 16 * u < b → 16 * v < b → tbN ρN c u = tbN ρN c v → u = v) (hTo : ∀ q t u, q < 16 → q ≠ c → 16 * t < bk ρN q → 16 * u < b → tbN ρN q t ≠ tbN ρN c u) :
    ∀ (d n k : Nat) (σ : KS), k + d = b → d < n → Rl (sX c k σN σ) (sM a c k ρN) → (∀ j, j ≠ 8 → j ≠ 9 → σ.1 j = σT.1 j) → σ.2 = σT.2 → (∀ u, 16 * u < b → σ.1 8 (16 * r + u) = nI (tbN ρN c u)) →
    ∃ σ', f_X2_sharePages_10 n (nI a) (nI c) (nI b) (nI k) σ = some (0, wr σ' 14 (nI c) (nI b)) ∧ Rl (sX c b σN σ') (sM a c b ρN) ∧ (∀ j, j ≠ 8 → j ≠ 9 → σ'.1 j = σT.1 j) ∧ σ'.2 = σT.2 := by
  intro d
  induction d with
  | zero =>
    intro n k σ e hn h ho hs h8
    obtain ⟨n', rfl⟩ : ∃ n', n = n' + 1 := ⟨n - 1, by omega⟩
    have : k = b := by omega
    subst this
    refine ⟨σ, ?_, h, ho, hs⟩
    rw [f_X2_sharePages_10, if_pos (nI_le (Nat.le_refl _) (by omega)), chk_nI hc (by decide)]
  | succ d ih =>
    intro n k σ e hn h ho hs h8
    obtain ⟨n', rfl⟩ : ∃ n', n = n' + 1 := ⟨n - 1, by omega⟩
    have k1 : k < b := by omega
    obtain ⟨σK, hσK⟩ : ∃ z, z = sX c k σN σ := ⟨_, rfl⟩
    obtain ⟨τK, hτK⟩ : ∃ z, z = sM a c k ρN := ⟨_, rfl⟩
    rw [← hσK, ← hτK] at h
    have x8 : σK.1 8 = σ.1 8 := by rw [hσK]; unfold sX; rw [setA_ne (by decide), setA_ne (by decide), setA_at]
    have x9 : σK.1 9 = σ.1 9 := by rw [hσK]; unfold sX; rw [setA_ne (by decide), setA_at]
    have x14 : σK.1 14 = upd (σN.1 14) c (nI k) := by rw [hσK]; unfold sX; rw [setA_at]
    have xr : ∀ j, j ≠ 8 → j ≠ 9 → j ≠ 14 → σK.1 j = σN.1 j := fun j a b d => by rw [hσK]; unfold sX; rw [setA_ne d, setA_ne b, setA_ne a]
    have m7 : τK.1 7 = upd (ρN.1 7) c (nI k) := by rw [hτK]; unfold sM; rw [setA_ne (by decide), setA_at]
    have m11 : τK.1 11 = cpP (ρN.1 11) a c k := by rw [hτK]; unfold sM; rw [setA_at]
    have mr : ∀ j, j ≠ 7 → j ≠ 11 → τK.1 j = ρN.1 j := fun j a b => by rw [hτK]; unfold sM; rw [setA_ne b, setA_ne a]
    obtain ⟨hB, hD, hK, hP, hQ, hT, hG, hS⟩ := id h
    have ebc : bk τK c = k := by unfold bk; rw [m7, upd_eq, nI_cl (by omega)]
    have ebq : ∀ q, q ≠ c → bk τK q = bk ρN q := fun q hq => by unfold bk; rw [m7, upd_ne hq]
    have eba : bk τK a = b := by rw [ebq a hac]; exact hba
    have etb : ∀ q u, tbN τK q u = tbN ρN q u := fun q u => by unfold tbN; rw [mr 12 (by decide) (by decide)]
    have erc : ∀ q, rcN τK q = rcN ρN q := fun q => by unfold rcN; rw [mr 10 (by decide) (by decide)]
    obtain ⟨f, hf⟩ : ∃ f, f = pgN τK a k := ⟨_, rfl⟩
    obtain ⟨g1, g2, g3⟩ := hG.1 a k ha (by omega)
    obtain ⟨q1, q2, q3, q4, q5⟩ := hQ.1 a ha (by rw [mr 6 (by decide) (by decide), hla]; decide)
    obtain ⟨t1, t2, t3, t4, t5⟩ := hT.1 a (k / 16) ha (by omega)
    rw [← hf] at g1 g2 g3
    have upos : 0 < usr τK f := by rw [hf]; exact usr_pos ha (by omega)
    have k3 : τK.1 2 f = nI 3 := (hG.2.1 f g1).2.mpr upos
    have u9 := (hG.2.1 f g1).1
    rw [x9] at u9
    rw [xr 15 (by decide) (by decide) (by decide), xo 15 (by decide) (by decide) (by decide)] at q3
    rw [x8] at t5 g3
    have hfr := frameX (σ := σ) (k := k) ha hb k1 (by rw [ho 11 (by decide) (by decide)]; exact h11) (by rw [ho 14 (by decide) (by decide)]; exact h14) (by rw [ho 15 (by decide) (by decide)]; exact q3) q1 t1 t5 g3
    obtain ⟨tab, htab⟩ : ∃ z, z = tbN ρN c (k / 16) := ⟨_, rfl⟩
    obtain ⟨v1, v2, v3, v4⟩ := hTab (k / 16) (by omega)
    have v5 := h8 (k / 16) (by omega)
    rw [← htab] at v1 v2 v3 v4 v5
    obtain ⟨σ1, hσ1⟩ : ∃ z, z = wr σ 9 (nI f) (nI (usr τK f + 1)) := ⟨_, rfl⟩
    obtain ⟨σ2, hσ2⟩ : ∃ z, z = wr σ1 8 (nI (16 * tab + k % 16)) (nI f) := ⟨_, rfl⟩
    have y8 : σ2.1 8 = upd (σ.1 8) (16 * tab + k % 16) (nI f) := by rw [hσ2, wr_at (by omega), hσ1, wr_ne (by decide)]
    have y9 : σ2.1 9 = upd (σ.1 9) f (nI (usr τK f + 1)) := by rw [hσ2, wr_ne (by decide), hσ1, wr_at (by omega)]
    have yo : ∀ j, j ≠ 8 → j ≠ 9 → σ2.1 j = σ.1 j := fun j a b => by rw [hσ2, wr_ne a, hσ1, wr_ne b]
    have hpi := pageIndex_t (σ := σ1) (k := k) hc (by omega) (by rw [hσ1, wr_ne (by decide), ho 15 (by decide) (by decide)]; exact h15) hr (by rw [hσ1, wr_ne (by decide)]; exact v5)
    have eX : f_X2_sharePages_10 (n' + 1) (nI a) (nI c) (nI b) (nI k) σ = f_X2_sharePages_10 n' (nI a) (nI c) (nI b) (nI (k + 1)) σ2 := by
      rw [f_X2_sharePages_10, if_neg (nI_ge k1 (by omega)), bnd_eq hfr, bnd_eq (isFrame_t g1), if_neg (by decide), chk_nI g1 (by decide), chk_nI g1 (by decide), rd_nI (i := f) (by omega), u9, show nI (usr τK f) + 1 = nI (usr τK f + 1) from nI_1 _, ← hσ1, bnd_eq hpi, bnd_eq (setWord_t (by omega)), ← hσ2, show nI k + 1 = nI (k + 1) from nI_1 k]
    obtain ⟨σL, hσL⟩ : ∃ z, z = sX c (k + 1) σN σ2 := ⟨_, rfl⟩
    obtain ⟨τL, hτL⟩ : ∃ z, z = sM a c (k + 1) ρN := ⟨_, rfl⟩
    have X8 : σL.1 8 = σ2.1 8 := by rw [hσL]; unfold sX; rw [setA_ne (by decide), setA_ne (by decide), setA_at]
    have X9 : σL.1 9 = σ2.1 9 := by rw [hσL]; unfold sX; rw [setA_ne (by decide), setA_at]
    have X14 : σL.1 14 = upd (σN.1 14) c (nI (k + 1)) := by rw [hσL]; unfold sX; rw [setA_at]
    have Xr : ∀ j, j ≠ 8 → j ≠ 9 → j ≠ 14 → σL.1 j = σN.1 j := fun j a b d => by rw [hσL]; unfold sX; rw [setA_ne d, setA_ne b, setA_ne a]
    have M7 : τL.1 7 = upd (ρN.1 7) c (nI (k + 1)) := by rw [hτL]; unfold sM; rw [setA_ne (by decide), setA_at]
    have M11 : τL.1 11 = cpP (ρN.1 11) a c (k + 1) := by rw [hτL]; unfold sM; rw [setA_at]
    have Mr : ∀ j, j ≠ 7 → j ≠ 11 → τL.1 j = ρN.1 j := fun j a b => by rw [hτL]; unfold sM; rw [setA_ne b, setA_ne a]
    have uu : ∀ (g : Nat → Int32) (x y : Int32), upd (upd g c x) c y = upd g c y := fun g x y => by
      funext j
      by_cases e : j = c
      · rw [e, upd_eq, upd_eq]
      · rw [upd_ne e, upd_ne e, upd_ne e]
    have gk : ρN.1 11 (256 * a + k) = nI f := by rw [← g2, m11, cpP_oth (by omega) (by omega) hac]
    have ft : f ≠ tab / 4 := fun w => by
      rw [w, mr 2 (by decide) (by decide), v4] at k3
      exact absurd k3 (by decide)
    have sK : σK.2 = σN.2 := by rw [hσK]; unfold sX; rw [setA_2, setA_2, setA_2]
    have sL : σL.2 = σN.2 := by rw [hσL]; unfold sX; rw [setA_2, setA_2, setA_2]
    have tK : τK.2 = ρN.2 := by rw [hτK]; unfold sM; rw [setA_2, setA_2]
    have tL : τL.2 = ρN.2 := by rw [hτL]; unfold sM; rw [setA_2, setA_2]
    have ez : zs τL = zs τK := by unfold zs; rw [Mr 2 (by decide) (by decide), mr 2 (by decide) (by decide)]
    have hRL : Rl σL τL := pgadd (tab := tab) (f := f) h hc (by rw [mr 6 (by decide) (by decide)]; exact hl) ebc (by omega) g1 (Or.inr k3) v1 (by rw [mr 3 (by decide) (by decide)]; exact v3) (by rw [mr 2 (by decide) (by decide)]; exact v4) (by rw [mr 12 (by decide) (by decide)]; exact v2) (by rw [erc, hrc, x8]; exact v5)
      (fun hz q t hq ht w => by
        rw [etb, htab] at w
        by_cases eq : q = c
        · subst eq
          rw [ebc] at ht
          have := hTi t (k / 16) (by omega) (by omega) w
          omega
        · rw [ebq q eq] at ht
          exact hTo q t (k / 16) hq eq ht (by omega) w)
      (by rw [X14, x14, uu]) (by rw [X9, y9, x9]) (fun j a b c d e => by rw [Xr j c d e, xr j c d e]) (by rw [sL, sK])
      (fun z hz hz2 => by rw [X8, y8, upd_ne hz2, x8]) (by rw [X8, y8, upd_eq]) (fun w hw => by
        rw [X8, y8, upd_ne (by omega), Mr 4 (by decide) (by decide), ← mr 4 (by decide) (by decide), ← x8]
        exact hG.2.2 f w g1 hw k3)
      (by rw [M7, m7, uu]) (by rw [M11, m11, ← gk, cpP_s]) (fun z _ => by rw [Mr 4 (by decide) (by decide), mr 4 (by decide) (by decide)]) (fun j a b c d e => by rw [Mr j d e, mr j d e]) (by rw [tL, tK])
      (fun j hj => by
        rw [Mr 2 (by decide) (by decide), ← mr 2 (by decide) (by decide)]
        by_cases e : j = f
        · rw [if_pos e, e]; exact k3
        · rw [if_neg e])
      (by rw [ez]; exact hB.1.same (by rw [Xr 4 (by decide) (by decide) (by decide), xr 4 (by decide) (by decide) (by decide)]) (by rw [Xr 5 (by decide) (by decide) (by decide), xr 5 (by decide) (by decide) (by decide)])) (by rw [ez, Mr 1 (by decide) (by decide), ← mr 1 (by decide) (by decide)]; exact hB.2.1)
    rw [eX]
    obtain ⟨-, -, -, -, qc5⟩ := hQ.1 c hc (by rw [mr 6 (by decide) (by decide), hl]; decide)
    rw [erc, hrc, mr 2 (by decide) (by decide)] at qc5
    refine ih n' (k + 1) σ2 (by omega) (by omega) (by rw [← hσL, ← hτL]; exact hRL) (fun j a b => by rw [yo j a b, ho j a b]) (by rw [hσ2, wr_2, hσ1, wr_2]; exact hs) (fun u hu => ?_)
    rw [y8, upd_ne (fun w => by
      have e1 : r / 4 = tab / 4 := by omega
      rw [e1, v4] at qc5
      exact absurd qc5 (by decide))]
    exact h8 u hu
