/-! PURE: a process is gone; reap -/
theorem remp {σ ρ : KS} {c : Nat} (h : Rl σ ρ) (hc : c < 16) (hs : ¬ ρ.1 6 c = 0) (hb : bk ρ c = 0) :
    ∃ σ' ρ', m_X2_removeProcess (nI c) σ = some (0, σ') ∧ m_X3_vanish (nI c) ρ = some (0, ρ') ∧ Rl σ' ρ' ∧ (∀ k, k ≠ 4 → k ≠ 5 → k ≠ 6 → k ≠ 11 → k ≠ 12 → σ'.1 k = σ.1 k) ∧ (∀ k, k ≠ 1 → k ≠ 2 → k ≠ 3 → k ≠ 6 → ρ'.1 k = ρ.1 k) ∧ ρ'.1 6 = upd (ρ.1 6) c 0 ∧ ρ'.2 = ρ.2 ∧ σ'.2 = σ.2 := by
  obtain ⟨hB, hD, hK, hP, hQ, hT, hG, hS⟩ := id h
  obtain ⟨q1, q2, q3, q4, q5⟩ := hQ.1 c hc hs
  obtain ⟨ρ1, hρ1⟩ : ∃ z, z = wr ρ 6 (nI c) 0 := ⟨_, rfl⟩
  have e6 : ρ1.1 6 = upd (ρ.1 6) c 0 := by rw [hρ1, wr_at (by omega)]
  have eo : ∀ k, k ≠ 6 → ρ1.1 k = ρ.1 k := fun k hk => by rw [hρ1, wr_ne hk]
  have hB1 : rB σ ρ1 := hB.cong (fun _ _ => rfl) (fun k hk => eo k (by revert k; decide))
  obtain ⟨σ2, ρ2, g1, g2, sx, sm', e3, hB2, hcs⟩ := pairG_r (p := rcN ρ c) hB1 q1 (by rw [eo 3 (by decide)]; exact q4) (by rw [eo 2 (by decide)]; exact q5)
  obtain ⟨kp, k3, k4, kd⟩ := give_keep (s := 1) (Or.inl rfl) q1 (by rw [eo 3 (by decide)]; exact q4) (by rw [eo 2 (by decide)]; exact q5) e3 hcs
  -- the process is taken out first, in thought
  obtain ⟨σ1, hσ1⟩ : ∃ z, z = wr (wr σ 11 (nI c) 0) 12 (nI c) (-1) := ⟨_, rfl⟩
  have f11 : σ1.1 11 = upd (σ.1 11) c 0 := by rw [hσ1, wr_ne (by decide), wr_at (by omega)]
  have f12 : σ1.1 12 = upd (σ.1 12) c (-1) := by rw [hσ1, wr_at (by omega), wr_ne (by decide)]
  have fo : ∀ k, k ≠ 11 → k ≠ 12 → σ1.1 k = σ.1 k := fun k a b => by rw [hσ1, wr_ne b, wr_ne a]
  have ebk : ∀ q, bk ρ1 q = bk ρ q := fun q => by unfold bk; rw [eo 7 (by decide)]
  have erc : ∀ q, rcN ρ1 q = rcN ρ q := fun q => by unfold rcN; rw [eo 10 (by decide)]
  have hR1 : Rl σ1 ρ1 := by
    refine ⟨hB1.cong (fun k hk => fo k (by revert k; decide) (by revert k; decide)) (fun _ _ => rfl), hD.cong (eo 2 (by decide)), hK.cong (fo 10 (by decide) (by decide)) (fun k hk => eo k (by revert k; decide)), ?_, ⟨?_, ?_⟩, hT.cong (fo 8 (by decide) (by decide)) (fun k hk => eo k (by revert k; decide)), hG.cong (fun k hk => fo k (by revert k; decide) (by revert k; decide)) (fun k hk => eo k (by revert k; decide)), ?_⟩
    · intro q hq
      obtain ⟨p1, p2, p3, p4, p5, p6, p7, p8⟩ := hP q hq
      rw [f11, f12, e6, ebk q, eo 7 (by decide), eo 8 (by decide), eo 9 (by decide), fo 14 (by decide) (by decide), fo 13 (by decide) (by decide)]
      by_cases e : q = c
      · subst e
        rw [upd_eq, upd_eq, upd_eq]
        exact ⟨rfl, Or.inl rfl, p3, p4, p5, fun _ => hb, by rw [if_pos rfl], p8⟩
      · rw [upd_ne e, upd_ne e, upd_ne e]
        exact ⟨p1, p2, p3, p4, p5, p6, p7, p8⟩
    · intro q hq hn
      rw [e6] at hn
      by_cases e : q = c
      · subst e; rw [upd_eq] at hn; exact absurd rfl hn
      · rw [upd_ne e] at hn
        rw [erc q, eo 10 (by decide), eo 3 (by decide), eo 2 (by decide), fo 15 (by decide) (by decide)]
        exact hQ.1 q hq hn
    · intro q q' hq hq' hn hn' e
      rw [e6] at hn hn'
      by_cases e1 : q = c
      · subst e1; rw [upd_eq] at hn; exact absurd rfl hn
      · by_cases e2 : q' = c
        · subst e2; rw [upd_eq] at hn'; exact absurd rfl hn'
        · rw [upd_ne e1] at hn
          rw [upd_ne e2] at hn'
          rw [erc, erc] at e
          exact hQ.2 q q' hq hq' hn hn' e
    · unfold rS; rw [hσ1, hρ1]; exact hS
  obtain ⟨σ3, hσ3⟩ : ∃ z, z = wr (wr σ2 11 (nI c) 0) 12 (nI c) (-1) := ⟨_, rfl⟩
  have s13 : sam [4, 5, 6] σ1 σ3 := by
    refine ⟨by rw [hσ3, hσ1, wr_2, wr_2, wr_2, wr_2]; exact sx.1, fun k hk => ?_⟩
    by_cases k12 : k = 12
    · subst k12; rw [f12, hσ3, wr_at (by omega), wr_ne (by decide), sx.2 12 (by decide)]
    · by_cases k11 : k = 11
      · subst k11; rw [f11, hσ3, wr_ne (by decide), wr_at (by omega), sx.2 11 (by decide)]
      · rw [hσ3, wr_ne k12, wr_ne k11, fo k k11 k12]; exact sx.2 k hk
  have hB3 : rB σ3 ρ2 := hB2.cong (fun k hk => by rw [hσ3, wr_ne (by revert k; decide), wr_ne (by revert k; decide)]) (fun _ _ => rfl)
  have hR3 : Rl σ3 ρ2 := hR1.places (Or.inl rfl) s13 sm' hB3 kp k3 k4 kd (fun q hq hn e => by
      rw [e6] at hn
      rw [erc q] at e
      by_cases eq : q = c
      · subst eq; rw [upd_eq] at hn; exact hn rfl
      · rw [upd_ne eq] at hn
        exact eq (hQ.2 q c hq hc hn hs e)) (fun q t hq ht e => by
      rw [ebk q] at ht
      obtain ⟨-, -, -, t4, -⟩ := hT.1 q t hq ht
      have e' : tbN ρ q t = rcN ρ c := by rw [← e]; unfold tbN; rw [eo 12 (by decide)]
      rw [e', q5] at t4
      exact absurd t4 (by decide))
  refine ⟨σ3, ρ2, ?_, ?_, hR3, fun k a b c' d e => ?_, fun k a b c' d => ?_, ?_, ?_, ?_⟩
  · unfold m_X2_removeProcess
    rw [chk_nI hc (by decide), rd_nI (by omega), q3, bnd_eq g1, chk_nI hc (by decide), chk_nI hc (by decide), hσ3]
  · unfold m_X3_vanish
    rw [chk_nI hc (by decide), chk_nI hc (by decide), ← hρ1, rd_nI (by omega), eo 10 (by decide), q2, bnd_eq g2]
  · rw [s13.2 k (by intro q; rcases List.mem_cons.mp q with q | q; exact a q; rcases List.mem_cons.mp q with q | q; exact b q; rcases List.mem_cons.mp q with q | q; exact c' q; cases q), fo k d e]
  · rw [sm'.2 k (by intro q; rcases List.mem_cons.mp q with q | q; exact a q; rcases List.mem_cons.mp q with q | q; exact b q; rcases List.mem_cons.mp q with q | q; exact c' q; cases q), eo k d]
  · rw [sm'.2 6 (by decide), e6]
  · rw [sm'.1, hρ1]; rfl
  · rw [s13.1, hσ1]; rfl
theorem rR.gone {σ ρ σ' ρ' : KS} {c : Nat} (h : rR σ ρ) (hs : ¬ ρ.1 6 c = 1) (v : Int32) (hv : ¬ v = 1) (a : σ'.1 16 = σ.1 16) (b : ρ'.1 13 = ρ.1 13) (e6 : ρ'.1 6 = upd (ρ.1 6) c v) (d : σ'.2 0 = σ.2 0) (e : ρ'.2 0 = ρ.2 0) : rR σ' ρ' := by
  obtain ⟨n, n1, n2, n3, n4, n5, n6⟩ := h
  refine ⟨n, n1, by rw [d]; exact n2, by rw [e]; exact n3, fun i hi => ?_, fun i j hi hj => by rw [b]; exact n5 i j hi hj, fun p hp hl => ?_⟩
  · rw [a, b, e6]
    obtain ⟨x1, p, p1, p2, p3⟩ := n4 i hi
    refine ⟨x1, p, p1, p2, ?_⟩
    by_cases eq : p = c
    · subst eq; exact absurd p3 hs
    · rw [upd_ne eq]; exact p3
  · rw [e6] at hl
    rw [b]
    by_cases eq : p = c
    · subst eq; rw [upd_eq] at hl; exact absurd hl hv
    · rw [upd_ne eq] at hl; exact n6 p hp hl
/-- a dead child -/
def ddc (ρ : KS) (p q : Nat) : Prop := ρ.1 6 q = 2 ∧ ρ.1 8 q = nI p
theorem reap_l {σ ρ : KS} {p : Nat} (hp : p < 16) (h : rP σ ρ) : ∀ (n i c : Nat), i ≤ 16 → 16 < n + i → c = cn (fun q => ¬ ρ.1 6 q = 0 ∧ ρ.1 8 q = nI p) i → (∀ q, q < i → ¬ ddc ρ p q) →
    (∃ q, q < 16 ∧ ddc ρ p q ∧ f_X2_reap_24 n (nI p) (nI i) σ = bnd (m_X2_removeProcess (nI q) σ) (fun _ σ_52 => chk (nI q) 16 (some (((256 * nI q) + ((rd σ_52 13 (nI q)) &&& 255)), σ_52))) ∧ f_X3_reap_15 n (nI p) (nI c) (nI i) ρ = bnd (m_X3_vanish (nI q) ρ) (fun _ σ_64 => chk (nI q) 16 (some (((256 * nI q) + ((rd σ_64 9 (nI q)) &&& 255)), σ_64)))) ∨
    ((∀ q, q < 16 → ¬ ddc ρ p q) ∧ f_X2_reap_24 n (nI p) (nI i) σ = some (-7, σ) ∧ f_X3_reap_15 n (nI p) (nI c) (nI i) ρ = if cn (fun q => ¬ ρ.1 6 q = 0 ∧ ρ.1 8 q = nI p) 16 = 0 then some (-6, ρ) else some (-7, ρ)) := by
  intro n
  induction n with
  | zero => intro i c a b; omega
  | succ n ih =>
    intro i c a b hcn hno
    rw [f_X2_reap_24, f_X3_reap_15]
    by_cases e : i = 16
    · subst e
      right
      have hle := cn_le (P := fun q => ¬ ρ.1 6 q = 0 ∧ ρ.1 8 q = nI p) (n := 16)
      rw [if_pos (show (16 : Int32) ≤ nI 16 from nI_le (a := 16) (by omega) (by omega)), if_pos (show (16 : Int32) ≤ nI 16 from nI_le (a := 16) (by omega) (by omega)), hcn]
      refine ⟨hno, rfl, ?_⟩
      by_cases hz : cn (fun q => ¬ ρ.1 6 q = 0 ∧ ρ.1 8 q = nI p) 16 = 0
      · rw [if_pos hz, if_pos ((nI_01 (by omega)).mpr hz)]
      · rw [if_neg hz, if_neg (fun q => hz ((nI_01 (by omega)).mp q))]
    · have hi : i < 16 := by omega
      have hkid := kids h (v := p) (by omega) hi
      have step : ∀ c', c' = cn (fun q => ¬ ρ.1 6 q = 0 ∧ ρ.1 8 q = nI p) (i + 1) → ¬ ddc ρ p i → _ := fun c' hc' hd => ih (i + 1) c' (by omega) (by omega) hc' (fun q hq => by
        rcases Nat.lt_or_ge q i with w | w
        · exact hno q w
        · rw [show q = i by omega]; exact hd)
      rw [if_neg (show ¬ (16 : Int32) ≤ nI i from nI_ge (b := 16) hi (by omega)), if_neg (show ¬ (16 : Int32) ≤ nI i from nI_ge (b := 16) hi (by omega)), chk_nI hi (by decide), chk_nI hi (by decide), chk_nI hi (by decide), chk_nI hi (by decide), chk_nI hi (by decide), rd_nI (i := i) (k := 12) (by omega), rd_nI (i := i) (k := 11) (by omega), rd_nI (i := i) (k := 6) (by omega), rd_nI (i := i) (k := 8) (by omega), (h i hi).1, show nI i + 1 = nI (i + 1) from nI_1 i, show nI c + 1 = nI (c + 1) from nI_1 c, show nI c + 0 = nI (c + 0) from nI_add c 0]
      by_cases h0 : ρ.1 6 i = 0
      · rw [if_pos h0, if_neg (fun w => (hkid.mp w).1 h0)]
        exact step (c + 0) (by rw [cn_s0 (P := fun q => ¬ ρ.1 6 q = 0 ∧ ρ.1 8 q = nI p) (fun w => w.1 h0), hcn]; rfl) (fun w => by have w1 := w.1; rw [h0] at w1; exact absurd w1 (by decide))
      · rw [if_neg h0]
        by_cases hx : ρ.1 8 i = nI p
        · rw [if_pos hx, if_pos (hkid.mpr ⟨h0, hx⟩)]
          by_cases h2 : ρ.1 6 i = 2
          · rw [if_pos h2, if_pos h2]
            left
            exact ⟨i, hi, ⟨h2, hx⟩, rfl, rfl⟩
          · rw [if_neg h2, if_neg h2]
            exact step (c + 1) (by rw [cn_s (P := fun q => ¬ ρ.1 6 q = 0 ∧ ρ.1 8 q = nI p) ⟨h0, hx⟩, hcn]) (fun w => h2 w.1)
        · rw [if_neg hx, if_neg (fun w => hx (hkid.mp w).2)]
          exact step (c + 0) (by rw [cn_s0 (P := fun q => ¬ ρ.1 6 q = 0 ∧ ρ.1 8 q = nI p) (fun w => hx w.2), hcn]; rfl) (fun w => hx w.2)
theorem sim_reap : ∀ (a : Int32) (σ ρ : KS), Rel σ ρ → ∃ (r : Int32) (σ' ρ' : KS), m_X2_reap a σ = some (r, σ') ∧ m_X3_reap a ρ = some (r, ρ') ∧ Rel σ' ρ' := by
  intro a σ ρ h
  have hP := h.2.2.2.1
  unfold m_X2_reap m_X3_reap
  rcases live_cases hP a with ⟨p, hp, rfl, hl, -, r1, r2⟩ | ⟨r1, r2⟩
  · rw [bnd_eq r1, if_neg (by decide), bnd_eq r2, if_neg (by decide), bnd_eq childrenOf_t, cn_congr (P := fun q => σ.1 12 q = nI p) (Q := fun q => ¬ ρ.1 6 q = 0 ∧ ρ.1 8 q = nI p) (fun i hi => kids hP (by omega) hi)]
    have hle := cn_le (P := fun q => ¬ ρ.1 6 q = 0 ∧ ρ.1 8 q = nI p) (n := 16)
    rcases reap_l hp hP FU 0 0 (by omega) (by decide) rfl (fun q hq => by omega) with ⟨q, hq, hd, x1, x2⟩ | ⟨hno, x1, x2⟩
    · have hpos := cn_pos (P := fun q => ¬ ρ.1 6 q = 0 ∧ ρ.1 8 q = nI p) hq ⟨by rw [hd.1]; decide, hd.2⟩
      obtain ⟨σ1, ρ1, g1, g2, hR, fX, fM, e6, s1, s2⟩ := remp h.l hq (by rw [hd.1]; decide) ((hP q hq).2.2.2.2.2.1 (by rw [hd.1]; decide))
      rw [if_neg (fun w => by have := (nI_01 (by omega)).mp w; omega), show f_X2_reap_24 FU (nI p) 0 σ = _ from x1, show f_X3_reap_15 FU (nI p) 0 0 ρ = _ from x2, bnd_eq g1, bnd_eq g2, chk_nI hq (by decide), chk_nI hq (by decide), rd_nI (by omega), rd_nI (by omega), fX 13 (by decide) (by decide) (by decide) (by decide) (by decide), fM 9 (by decide) (by decide) (by decide) (by decide), (hP q hq).2.2.2.2.2.2.2]
      refine ⟨_, σ1, ρ1, rfl, rfl, hR.rel ?_⟩
      exact h.2.2.2.2.2.2.2.1.gone (c := q) (by rw [hd.1]; decide) 0 (by decide) (fX 16 (by decide) (by decide) (by decide) (by decide) (by decide)) (fM 13 (by decide) (by decide) (by decide) (by decide)) e6 (by rw [s2]) (by rw [s1])
    · rw [show f_X2_reap_24 FU (nI p) 0 σ = _ from x1, show f_X3_reap_15 FU (nI p) 0 0 ρ = _ from x2]
      by_cases hz : cn (fun q => ¬ ρ.1 6 q = 0 ∧ ρ.1 8 q = nI p) 16 = 0
      · rw [if_pos hz, if_pos ((nI_01 (by omega)).mpr hz)]; exact ⟨-6, σ, ρ, rfl, rfl, h⟩
      · rw [if_neg hz, if_neg (fun q => hz ((nI_01 (by omega)).mp q))]; exact ⟨-7, σ, ρ, rfl, rfl, h⟩
  · rw [bnd_eq r1, if_pos rfl, bnd_eq r2, if_pos rfl]; exact ⟨-2, σ, ρ, rfl, rfl, h⟩
