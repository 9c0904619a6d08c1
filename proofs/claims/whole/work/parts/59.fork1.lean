/-! PURE: fork: a record and tables, and the way back -/
theorem Rl.r15 {σ τ : KS} {c : Nat} {v : Int32} (h : Rl σ τ) (hc : c < 16) (h0 : τ.1 6 c = 0) : Rl (wr σ 15 (nI c) v) τ := by
  obtain ⟨hB, hD, hK, hP, hQ, hT, hG, hS⟩ := h
  refine ⟨hB.cong (fun k hk => wr_ne (by revert k; decide)) (fun _ _ => rfl), hD, hK.cong (wr_ne (by decide)) (fun _ _ => rfl), hP.cong (fun k hk => wr_ne (by revert k; decide)) (fun _ _ => rfl), ⟨fun q hq hn => ?_, hQ.2⟩, hT.cong (wr_ne (by decide)) (fun _ _ => rfl), hG.cong (fun k hk => wr_ne (by revert k; decide)) (fun _ _ => rfl), hS⟩
  have hne : q ≠ c := fun e => hn (by rw [e]; exact h0)
  rw [wr_at (by omega), upd_ne hne]
  exact hQ.1 q hq hn
theorem kdGive {σ0 ρ0 τ τ' : KS} {x s : Nat} (hB : rB σ0 ρ0) (hs : s = 1 ∨ s = 2) (hx : x < 512) (hkx : τ.1 2 (x / 4) = nI s) (h0x : ρ0.1 3 x = 0) (hkd : ∀ f, f < 128 → τ.1 2 f = ρ0.1 2 f ∨ ρ0.1 2 f = 0) (hus : ∀ z, z < 512 → ρ0.1 3 z = 1 → τ.1 3 z = 1)
    (hc : ((∃ i, i < 4 ∧ 4 * (x / 4) + i ≠ x ∧ τ.1 3 (4 * (x / 4) + i) = 1) ∧ τ'.1 2 = τ.1 2) ∨ ((∀ i, i < 4 → 4 * (x / 4) + i ≠ x → τ.1 3 (4 * (x / 4) + i) = 0) ∧ ∀ j, τ'.1 2 j = if j = x / 4 then 0 else τ.1 2 j)) :
    ∀ f, f < 128 → τ'.1 2 f = ρ0.1 2 f ∨ ρ0.1 2 f = 0 := by
  intro f hf
  rcases hc with ⟨-, e2⟩ | ⟨hall, e2⟩
  · rw [e2]; exact hkd f hf
  · rw [e2 f]
    by_cases e : f = x / 4
    · right
      rcases hkd f hf with w | w
      · refine absurd ?_ (show ¬ False from id)
        obtain ⟨i, hi, h1⟩ := (kd12 hB hf).mp (by rw [← w, e, hkx]; rcases hs with rfl | rfl <;> decide)
        have hne : 4 * (x / 4) + i ≠ x := fun q => by rw [e, q, h0x] at h1; exact absurd h1 (by decide)
        have := hus _ (by omega) h1
        rw [e, hall i hi hne] at this
        exact absurd this (by decide)
      · exact w
    · rw [if_neg e]; exact hkd f hf
def fI (c r t : Nat) (σ0 ρ0 σ τ : KS) : Prop := Rl σ τ ∧ τ.1 6 c = 0 ∧ (∀ j ∈ [4, 5, 6, 7, 8, 9, 10, 11, 13], τ.1 j = ρ0.1 j) ∧ τ.2 = ρ0.2 ∧ (∀ q u, q < 16 → q ≠ c → u < 16 → τ.1 12 (16 * q + u) = ρ0.1 12 (16 * q + u)) ∧
  (r < 512 ∧ τ.1 3 r = 1 ∧ τ.1 2 (r / 4) = nI 1 ∧ ρ0.1 3 r = 0) ∧
  (∀ u, u < t → tbN τ c u < 512 ∧ τ.1 12 (16 * c + u) = nI (tbN τ c u) ∧ τ.1 3 (tbN τ c u) = 1 ∧ τ.1 2 (tbN τ c u / 4) = nI 2 ∧ σ.1 8 (16 * r + u) = nI (tbN τ c u) ∧ ρ0.1 3 (tbN τ c u) = 0) ∧ (∀ u v, u < t → v < t → tbN τ c u = tbN τ c v → u = v) ∧
  (∀ z, z < 512 → z ≠ r → (∀ u, u < t → tbN τ c u ≠ z) → τ.1 3 z = ρ0.1 3 z) ∧ (∀ f, f < 128 → τ.1 2 f = ρ0.1 2 f ∨ ρ0.1 2 f = 0) ∧
  σ.1 15 = upd (σ0.1 15) c (nI r) ∧ (∀ j ∈ [9, 10, 11, 12, 13, 14, 16], σ.1 j = σ0.1 j) ∧ σ.2 = σ0.2
theorem fI.other {c r t : Nat} {σ0 ρ0 σ τ : KS} (h0 : Rel σ0 ρ0) (h : fI c r t σ0 ρ0 σ τ) (hc : c < 16) : (∀ q, q < 16 → ¬ τ.1 6 q = 0 → ρ0.1 3 (rcN τ q) = 1) ∧ (∀ q u, q < 16 → 16 * u < bk τ q → ρ0.1 3 (tbN τ q u) = 1) ∧ bk τ c = 0 ∧ (∀ z, z < 512 → ρ0.1 3 z = 1 → τ.1 3 z = 1) := by
  obtain ⟨hR, h6, ho, hs, h12, ⟨r1, r2, r3, r4⟩, hT, hTi, hu, hkd, x15, xo, xs⟩ := h
  have hbc : bk τ c = 0 := (hR.2.2.2.1 c hc).2.2.2.2.2.1 (by rw [h6]; decide)
  refine ⟨fun q hq hn => ?_, fun q u hq hu' => ?_, hbc, fun z hz h1 => ?_⟩
  · have : rcN τ q = rcN ρ0 q := by unfold rcN; rw [ho 10 (by decide)]
    rw [this]
    exact (h0.2.2.2.2.1.1 q hq (by rw [← ho 6 (by decide)]; exact hn)).2.2.2.1
  · have hb : bk τ q = bk ρ0 q := by unfold bk; rw [ho 7 (by decide)]
    have b5 := (hR.2.2.2.1 q hq).2.2.2.2.1
    have hne : q ≠ c := fun e => by rw [e, hbc] at hu'; omega
    have : tbN τ q u = tbN ρ0 q u := by unfold tbN; rw [h12 q u hq hne (by omega)]
    rw [this]
    exact (h0.2.2.2.2.2.1.1 q u hq (by rw [← hb]; exact hu')).2.2.1
  · rw [hu z hz (fun e => by rw [e, r4] at h1; exact absurd h1 (by decide)) (fun u hu' e => by
      have := (hT u hu').2.2.2.2.2
      rw [e, h1] at this
      exact absurd this (by decide))]
    exact h1
theorem ftake {c r t : Nat} {σ0 ρ0 σ τ ρ : KS} (h0 : Rel σ0 ρ0) (h : fI c r t σ0 ρ0 σ τ) (hc : c < 16) (ht : t < 16) (hρ : ∀ j ∈ [1, 2, 3], ρ.1 j = τ.1 j) :
    (m_X2_addTable (nI c) (nI (16 * t)) σ = some (0, σ) ∧ m_X3_takeSmall 2 ρ = some (-1, ρ)) ∨
    ∃ tab σ1 ρ1 τ1, tab < 512 ∧ m_X2_addTable (nI c) (nI (16 * t)) σ = some (1, σ1) ∧ m_X3_takeSmall 2 ρ = some (nI tab, ρ1) ∧ sam [1, 2, 3] ρ ρ1 ∧ (∀ j ∈ [1, 2, 3], τ1.1 j = ρ1.1 j) ∧ τ1.1 12 = upd (τ.1 12) (16 * c + t) (nI tab) ∧ fI c r (t + 1) σ0 ρ0 σ1 τ1 := by
  obtain ⟨o1, o2, hbc, o4⟩ := h.other h0 hc
  obtain ⟨hR, h6, ho, hs, h12, ⟨r1, r2, r3, r4⟩, hT, hTi, hu, hkd, x15, xo, xs⟩ := h
  have hd : 16 * t / 16 = t := by omega
  rcases pairTab (ρ := ρ) (r := r) (k := 16 * t) hR hρ hc (by omega) (by omega) (by rw [x15, upd_eq]) r1 r3 r2 (fun q hq hn e => by
      have := o1 q hq hn
      rw [e, r4] at this
      exact absurd this (by decide)) (by omega) with w | ⟨tab, σ1, ρ1, τ1, ht1, t1, t2, s1, hR1, e123, eo, es, e12, hu0, hk0, e2, e3, x1, x8, xs1⟩
  · exact Or.inl w
  · right
    rw [hd] at e12 x8
    have etb : ∀ u, u < 16 → u ≠ t → tbN τ1 c u = tbN τ c u := fun u hu' hne => by unfold tbN; rw [e12, upd_ne (by omega)]
    have ett : tbN τ1 c t = tab := by unfold tbN; rw [e12, upd_eq, nI_cl (by omega)]
    have nr : tab ≠ r := fun e => by rw [e, r2] at hu0; exact absurd hu0 (by decide)
    have nt : ∀ u, u < t → tbN τ c u ≠ tab := fun u hu' e => by
      have := (hT u hu').2.2.1
      rw [e, hu0] at this
      exact absurd this (by decide)
    have h0t : ρ0.1 3 tab = 0 := by rw [← hu tab ht1 nr nt]; exact hu0
    refine ⟨tab, σ1, ρ1, τ1, ht1, t1, t2, s1, e123, e12, hR1, ?_, fun j hj => ?_, ?_, fun q u hq hne hu' => ?_, ⟨r1, ?_, ?_, r4⟩, fun u hu' => ?_, fun u v hu' hv e => ?_, fun z hz hzr hzt => ?_, fun f hf => ?_, ?_, fun j hj => ?_, ?_⟩
    · rw [eo 6 (by decide) (by decide) (by decide) (by decide)]; exact h6
    · rw [eo j (by revert j; decide) (by revert j; decide) (by revert j; decide) (by revert j; decide)]; exact ho j hj
    · rw [es]; exact hs
    · rw [e12, upd_ne (by omega)]; exact h12 q u hq hne hu'
    · rw [e3, upd_ne nr.symm]; exact r2
    · rw [e2, upd_ne (fun e => by
        rw [e] at r3
        rw [r3] at hk0
        rcases hk0 with w | w <;> exact absurd w (by decide))]; exact r3
    · by_cases e : u = t
      · subst e
        rw [ett, e12, upd_eq, e3, upd_eq, e2, upd_eq, x8, upd_eq]
        exact ⟨ht1, rfl, rfl, rfl, rfl, h0t⟩
      · obtain ⟨a1, a2, a3, a4, a5, a6⟩ := hT u (by omega)
        rw [etb u (by omega) e, e12, upd_ne (by omega), e3, upd_ne (nt u (by omega)), x8, upd_ne (by omega), e2]
        refine ⟨a1, a2, a3, ?_, a5, a6⟩
        by_cases e' : tbN τ c u / 4 = tab / 4
        · rw [e', upd_eq]
        · rw [upd_ne e']; exact a4
    · by_cases eu : u = t
      · by_cases ev : v = t
        · rw [eu, ev]
        · rw [eu, ett, etb v (by omega) ev] at e
          exact absurd e.symm (nt v (by omega))
      · by_cases ev : v = t
        · rw [ev, ett, etb u (by omega) eu] at e
          exact absurd e (nt u (by omega))
        · rw [etb u (by omega) eu, etb v (by omega) ev] at e
          exact hTi u v (by omega) (by omega) e
    · rw [e3, upd_ne (fun e => hzt t (by omega) (by rw [ett, e]))]
      exact hu z hz hzr (fun u hu' => by rw [← etb u (by omega) (by omega)]; exact hzt u (by omega))
    · rw [e2]
      by_cases e : f = tab / 4
      · rw [e, upd_eq]
        rcases hk0 with w | w
        · rw [← w]; exact hkd _ (by omega)
        · right
          rcases hkd (tab / 4) (by omega) with z | z
          · rw [← z]; exact w
          · exact z
      · rw [upd_ne e]; exact hkd f hf
    · rw [x1 15 (by decide) (by decide) (by decide) (by decide)]; exact x15
    · rw [x1 j (by revert j; decide) (by revert j; decide) (by revert j; decide) (by revert j; decide)]; exact xo j hj
    · rw [xs1]; exact xs
theorem fdrop {c r t : Nat} {σ0 ρ0 σ τ : KS} (h0 : Rel σ0 ρ0) (h : fI c r (t + 1) σ0 ρ0 σ τ) (hc : c < 16) (ht : t < 16) : ∃ σ' τ', m_X2_dropTable (nI c) (nI (16 * t)) σ = some (0, σ') ∧ fI c r t σ0 ρ0 σ' τ' := by
  obtain ⟨o1, o2, hbc, o4⟩ := h.other h0 hc
  obtain ⟨hR, h6, ho, hs, h12, ⟨r1, r2, r3, r4⟩, hT, hTi, hu, hkd, x15, xo, xs⟩ := h
  have hd : 16 * t / 16 = t := by omega
  obtain ⟨tab, htab⟩ : ∃ z, z = tbN τ c t := ⟨_, rfl⟩
  obtain ⟨a1, a2, a3, a4, a5, a6⟩ := hT t (by omega)
  rw [← htab] at a1 a2 a3 a4 a5 a6
  obtain ⟨σ', τ', v1, -, sx, sm', e3, hB, hcs⟩ := pairG_t hR.1 a1 a3 a4
  obtain ⟨kp, kk3, kk4, kd4⟩ := give_keep (s := 2) (Or.inr rfl) a1 a3 a4 e3 hcs
  have hR' : Rl σ' τ' := hR.places (Or.inr rfl) sx sm' hB kp kk3 kk4 kd4 (fun q hq hn e => by
      have := o1 q hq hn
      rw [e, a6] at this
      exact absurd this (by decide)) (fun q u hq hu' e => by
      have := o2 q u hq hu'
      rw [e, a6] at this
      exact absurd this (by decide))
  have mo : ∀ j, 4 ≤ j → τ'.1 j = τ.1 j := fun j hj => sm'.2 j (mem3 (by omega) (by omega) (by omega))
  have etb : ∀ u, tbN τ' c u = tbN τ c u := fun u => by unfold tbN; rw [mo 12 (by decide)]
  have nr : r ≠ tab := fun e => by rw [← e, r3] at a4; exact absurd a4 (by decide)
  have kr := kp r r1 nr 1 (Or.inl rfl) r2 r3
  refine ⟨σ', τ', ?_, hR', ?_, fun j hj => ?_, ?_, fun q u hq hne hu' => ?_, ⟨r1, kr.1, kr.2, r4⟩, fun u hu' => ?_, fun u v hu' hv e => ?_, fun z hz hzr hzt => ?_, kdGive h0.1 (Or.inr rfl) a1 a4 a6 hkd o4 hcs, ?_, fun j hj => ?_, ?_⟩
  · unfold m_X2_dropTable
    rw [bnd_eq (tableIndex_t (r := r) hc (by omega) (by rw [x15, upd_eq])), hd, bnd_eq (wordAt_t (by omega)), a5, bnd_eq v1]
  · rw [mo 6 (by decide)]; exact h6
  · rw [mo j (by revert j; decide)]; exact ho j hj
  · rw [sm'.1]; exact hs
  · rw [mo 12 (by decide)]; exact h12 q u hq hne hu'
  · obtain ⟨b1, b2, b3, b4, b5, b6⟩ := hT u (by omega)
    have hne : tbN τ c u ≠ tab := fun e => by
      have := hTi u t (by omega) (by omega) (by rw [e, htab])
      omega
    have kt := kp (tbN τ c u) b1 hne 2 (Or.inr rfl) b3 b4
    rw [etb, mo 12 (by decide), sx.2 8 (by decide)]
    exact ⟨b1, b2, kt.1, kt.2, b5, b6⟩
  · rw [etb, etb] at e
    exact hTi u v (by omega) (by omega) e
  · rw [e3]
    by_cases e : z = tab
    · rw [e, upd_eq, a6]
    · rw [upd_ne e]
      refine hu z hz hzr (fun u hu' => ?_)
      by_cases eu : u = t
      · rw [eu, ← htab]; exact fun w => e w.symm
      · rw [← etb]; exact hzt u (by omega)
  · rw [sx.2 15 (by decide)]; exact x15
  · rw [sx.2 j (by revert j; decide)]; exact xo j hj
  · rw [sx.1]; exact xs
theorem s16 (x : Int32) : x + (-16) = x - 16 := (Int32.sub_eq_add_neg x 16).symm
theorem fundo {c r : Nat} {σ0 ρ0 : KS} {x2 x3 : Int32} (h0 : Rel σ0 ρ0) (hc : c < 16) : ∀ (t n : Nat) (σ τ : KS), t ≤ 16 → fI c r t σ0 ρ0 σ τ → t < n → ∃ σ' τ', f_X2_takeTables_22 n (nI c) x2 x3 (nI (16 * t) - 16) σ = some (0, σ') ∧ fI c r 0 σ0 ρ0 σ' τ' := by
  intro t
  induction t with
  | zero =>
    intro n σ τ _ h hn
    obtain ⟨n', rfl⟩ : ∃ n', n = n' + 1 := ⟨n - 1, by omega⟩
    refine ⟨σ, τ, ?_, h⟩
    rw [f_X2_takeTables_22, if_pos (by decide)]
  | succ t ih =>
    intro n σ τ ht h hn
    obtain ⟨n', rfl⟩ : ∃ n', n = n' + 1 := ⟨n - 1, by omega⟩
    obtain ⟨σ1, τ1, d1, h1⟩ := fdrop h0 h hc (by omega)
    obtain ⟨σ2, τ2, d2, h2⟩ := ih n' σ1 τ1 (by omega) h1 (by omega)
    refine ⟨σ2, τ2, ?_, h2⟩
    rw [f_X2_takeTables_22, show nI (16 * (t + 1)) - 16 = nI (16 * t) from pk_sub (a := 16 * (t + 1)) (b := 16) (by omega), if_neg (show ¬ nI (16 * t) < 0 from nI_nlt (b := 0) (by omega) (by omega)), bnd_eq d1, s16]
    exact d2
def fR (c : Nat) (ρ0 ρ : KS) : Prop := (∀ j ∈ [4, 5, 6, 7, 8, 9, 10, 11, 13, 14, 15, 16], ρ.1 j = ρ0.1 j) ∧ ρ.2 = ρ0.2 ∧ (∀ q u, q < 16 → q ≠ c → u < 16 → ρ.1 12 (16 * q + u) = ρ0.1 12 (16 * q + u))
theorem ftab {a c r b N : Nat} {σ0 ρ0 : KS} (h0 : Rel σ0 ρ0) (hc : c < 16) (hb : b ≤ 256) (hN : N = (b + 15) / 16) : ∀ (d n m t : Nat) (σ τ ρ : KS), t + d = N → d < n → d < m → fI c r t σ0 ρ0 σ τ → fR c ρ0 ρ → (∀ j ∈ [1, 2, 3, 12], ρ.1 j = τ.1 j) →
    (∃ σ' τ' ρ', f_X2_takeTables_2 n (nI c) (nI b) (nI (16 * t)) σ = some (1, σ') ∧ f_X3_fork_59 m (nI a) (nI c) (nI r) (nI N) (nI t) ρ = bnd (m_X3_begin (nI c) (nI r) (nI a) ρ') (fun _ σ_113 => chk (nI a) 16 (chk (nI c) 16 (f_X3_fork_131 FU (nI a) (nI c) (nI r) (nI N) 0 (wr σ_113 7 (nI c) (rd σ_113 7 (nI a)))))) ∧ fI c r N σ0 ρ0 σ' τ' ∧ fR c ρ0 ρ' ∧ ∀ j ∈ [1, 2, 3, 12], ρ'.1 j = τ'.1 j) ∨
    (∃ σ' τ' ρ', f_X2_takeTables_2 n (nI c) (nI b) (nI (16 * t)) σ = some (0, σ') ∧ f_X3_fork_59 m (nI a) (nI c) (nI r) (nI N) (nI t) ρ = bnd (m_X3_fail ρ') (fun r s => some (r, s)) ∧ fI c r 0 σ0 ρ0 σ' τ' ∧ fR c ρ0 ρ') := by
  intro d
  induction d with
  | zero =>
    intro n m t σ τ ρ e hn hm h hr hρ
    obtain ⟨n', rfl⟩ : ∃ n', n = n' + 1 := ⟨n - 1, by omega⟩
    obtain ⟨m', rfl⟩ : ∃ m', m = m' + 1 := ⟨m - 1, by omega⟩
    have et : t = N := by omega
    subst et
    left
    refine ⟨σ, τ, ρ, ?_, ?_, h, hr, hρ⟩
    · rw [f_X2_takeTables_2, if_pos (nI_le (by omega) (by omega))]
    · rw [f_X3_fork_59, if_pos (nI_le (Nat.le_refl _) (by omega))]
  | succ d ih =>
    intro n m t σ τ ρ e hn hm h hr hρ
    obtain ⟨n', rfl⟩ : ∃ n', n = n' + 1 := ⟨n - 1, by omega⟩
    obtain ⟨m', rfl⟩ : ∃ m', m = m' + 1 := ⟨m - 1, by omega⟩
    have hix : (16 : Int32) * nI c + nI t = nI (16 * c + t) := by rw [q16, pk_mul, nI_add]
    obtain ⟨g1, g2, g3⟩ := id hr
    rcases ftake h0 h hc (show t < 16 by omega) (fun j hj => hρ j (by revert j; decide)) with ⟨t1, t2⟩ | ⟨tab, σ1, ρ1, τ1, ht1, t1, t2, s1, e123, e12, h1⟩
    · right
      obtain ⟨σ2, τ2, d2, h2⟩ := fundo (x2 := nI b) (x3 := nI (16 * t)) h0 hc t FU σ τ (by omega) h (show t < 1100 by omega)
      refine ⟨σ2, τ2, wr ρ 12 (nI (16 * c + t)) (-1), ?_, ?_, h2, ⟨fun j hj => ?_, ?_, fun q u hq hne hu => ?_⟩⟩
      · rw [f_X2_takeTables_2, if_neg (nI_ge (by omega) (by omega)), bnd_eq t1, if_pos rfl]; exact d2
      · rw [f_X3_fork_59, if_neg (nI_ge (by omega) (by omega)), bnd_eq t2, hix, chk_nI (by omega) (by decide), chk_nI (by omega) (by decide), rd_nI (by omega), wr_at (by omega), upd_eq, if_neg (by decide)]
      · rw [wr_ne (by revert j; decide)]; exact g1 j hj
      · rw [wr_2]; exact g2
      · rw [wr_at (by omega), upd_ne (by omega)]; exact g3 q u hq hne hu
    · obtain ⟨ρ2, hρ2⟩ : ∃ z, z = wr ρ1 12 (nI (16 * c + t)) (nI tab) := ⟨_, rfl⟩
      have eX : f_X2_takeTables_2 (n' + 1) (nI c) (nI b) (nI (16 * t)) σ = f_X2_takeTables_2 n' (nI c) (nI b) (nI (16 * (t + 1))) σ1 := by
        rw [f_X2_takeTables_2, if_neg (nI_ge (by omega) (by omega)), bnd_eq t1, if_neg (by decide), show nI (16 * t) + 16 = nI (16 * (t + 1)) from nI_add (16 * t) 16]
      have eM : f_X3_fork_59 (m' + 1) (nI a) (nI c) (nI r) (nI N) (nI t) ρ = f_X3_fork_59 m' (nI a) (nI c) (nI r) (nI N) (nI (t + 1)) ρ2 := by
        rw [f_X3_fork_59, if_neg (nI_ge (by omega) (by omega)), bnd_eq t2, hix, chk_nI (by omega) (by decide), chk_nI (by omega) (by decide), ← hρ2, rd_nI (by omega), show ρ2.1 12 (16 * c + t) = nI tab by rw [hρ2, wr_at (by omega), upd_eq], if_pos (show (0 : Int32) ≤ nI tab from nI_le (a := 0) (by omega) (by omega)), show nI t + 1 = nI (t + 1) from nI_1 t]
      rw [eX, eM]
      refine ih n' m' (t + 1) σ1 τ1 ρ2 (by omega) (by omega) (by omega) h1 ⟨fun j hj => ?_, ?_, fun q u hq hne hu => ?_⟩ (fun j hj => ?_)
      · rw [hρ2, wr_ne (by revert j; decide), s1.2 j (by revert j; decide)]; exact g1 j hj
      · rw [hρ2, wr_2, s1.1]; exact g2
      · rw [hρ2, wr_at (by omega), upd_ne (by omega), s1.2 12 (by decide)]; exact g3 q u hq hne hu
      · by_cases e' : j = 12
        · subst e'
          rw [hρ2, wr_at (by omega), s1.2 12 (by decide), hρ 12 (by decide), e12]
        · rw [hρ2, wr_ne e']
          exact (e123 j (by revert j; decide)).symm
