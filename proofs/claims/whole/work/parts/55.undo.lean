/-! PURE: what comes back when all that was taken is given back -/
theorem Rl.swap {σ τ ρ : KS} (h : Rl σ τ) (hs : swp τ ρ) (hc : canR (ρ.1 1) (zs τ)) (hS : rS σ ρ) : Rl σ ρ := by
  obtain ⟨⟨hB, -, hP1, hP2, hO⟩, hD, hK, hP, hQ, hT, hG, -⟩ := h
  obtain ⟨s2, s3, sp, s12, s11, s4, s5, s13, s0⟩ := hs
  have ez : zs ρ = zs τ := by
    funext i
    refine propext ?_
    unfold zs
    exact ⟨fun q => ⟨q.1, by rw [← s2 i q.1]; exact q.2⟩, fun q => ⟨q.1, by rw [s2 i q.1]; exact q.2⟩⟩
  have ebk : ∀ p, p < 16 → bk ρ p = bk τ p := fun p hp => by unfold bk; rw [(sp p hp).2.1]
  have erc : ∀ p, p < 16 → ¬ τ.1 6 p = 0 → rcN ρ p = rcN τ p := fun p hp hn => by unfold rcN; rw [((sp p hp).2.2.1 hn).2]
  have etb : ∀ p t, p < 16 → 16 * t < bk τ p → tbN ρ p t = tbN τ p t := fun p t hp ht => by unfold tbN; rw [s12 p t hp ht]
  have epg : ∀ p k, p < 16 → k < bk τ p → pgN ρ p k = pgN τ p k := fun p k hp hk => by unfold pgN; rw [s11 p k hp hk]
  have eu : ∀ f, usr ρ f = usr τ f := fun f => by
    unfold usr
    refine sN_congr fun p hp => ?_
    rw [ebk p hp]
    exact cn_congr fun k hk => by rw [epg p k hp hk]
  have hpS : ∀ s u, pS s u σ τ → pS s u σ ρ := by
    intro s u hh f hf
    obtain ⟨a, a1, a2, a3, a4⟩ := hh f hf
    exact ⟨a, a1, a2, by rw [s2 f hf]; exact a3, fun w i hi => by rw [s3 _ (by omega)]; exact a4 w i hi⟩
  have hne0 : ∀ p, p < 16 → 0 < bk τ p → ¬ τ.1 6 p = 0 := fun p hp hb q => by
    have := (hP p hp).2.2.2.2.2.1 (by rw [q]; decide)
    omega
  refine ⟨⟨by rw [ez]; exact hB, by rw [ez]; exact hc, hpS 1 6 hP1, hpS 2 7 hP2, ?_⟩, ?_, ⟨?_, ?_, ?_, ?_⟩, ?_, ⟨?_, ?_⟩, ⟨?_, ?_⟩, ⟨?_, ?_, ?_⟩, hS⟩
  · intro f hf n1 n2 i hi
    rw [s2 f hf] at n1 n2
    rw [s3 _ (by omega)]
    exact hO f hf n1 n2 i hi
  · intro f hf
    rw [s2 f hf]; exact hD f hf
  · intro f hf; rw [s5 f hf]; exact hK.1 f hf
  · intro f hf; rw [s5 f hf]; exact hK.2.1 f hf
  · intro i hi
    rw [s2 i hi, hK.2.2.1 i hi]
    constructor
    · intro ⟨k, f, k1, f1, f2, f3, f4⟩; exact ⟨k, f, k1, f1, f2, f3, by rw [s5 f f1]; exact f4⟩
    · intro ⟨k, f, k1, f1, f2, f3, f4⟩; exact ⟨k, f, k1, f1, f2, f3, by rw [← s5 f f1]; exact f4⟩
  · intro f g k j i f1 g1 k1 j1 fa ga e1 e2 b1 b2
    rw [s5 f f1] at e1
    rw [s5 g g1] at e2
    exact hK.2.2.2 f g k j i f1 g1 k1 j1 fa ga e1 e2 b1 b2
  · intro p hp
    obtain ⟨p1, p2, p3, p4, p5, p6, p7, p8⟩ := hP p hp
    obtain ⟨q1, q2, q3, q4⟩ := sp p hp
    rw [q1, q2, ebk p hp, q4]
    refine ⟨p1, p2, p3, p4, p5, p6, ?_, p8⟩
    rw [p7]
    by_cases e : τ.1 6 p = 0
    · rw [if_pos e, if_pos e]
    · rw [if_neg e, if_neg e, (q3 e).1]
  · intro p hp hn
    rw [(sp p hp).1] at hn
    obtain ⟨a1, a2, a3, a4, a5⟩ := hQ.1 p hp hn
    rw [erc p hp hn, ((sp p hp).2.2.1 hn).2, s3 _ a1, s2 _ (by omega)]
    exact ⟨a1, a2, a3, a4, a5⟩
  · intro p q hp hq hn hm e
    rw [(sp p hp).1] at hn
    rw [(sp q hq).1] at hm
    rw [erc p hp hn, erc q hq hm] at e
    exact hQ.2 p q hp hq hn hm e
  · intro p t hp ht
    rw [ebk p hp] at ht
    obtain ⟨a1, a2, a3, a4, a5⟩ := hT.1 p t hp ht
    rw [etb p t hp ht, s12 p t hp ht, s3 _ a1, s2 _ (by omega), erc p hp (hne0 p hp (by omega))]
    exact ⟨a1, a2, a3, a4, a5⟩
  · intro p t q u hp hq ht hu e
    rw [ebk p hp] at ht
    rw [ebk q hq] at hu
    rw [etb p t hp ht, etb q u hq hu] at e
    exact hT.2 p t q u hp hq ht hu e
  · intro p k hp hk
    rw [ebk p hp] at hk
    obtain ⟨a1, a2, a3⟩ := hG.1 p k hp hk
    rw [epg p k hp hk, s11 p k hp hk, etb p (k / 16) hp (by omega)]
    exact ⟨a1, a2, a3⟩
  · intro f hf
    rw [eu f, s2 f hf]
    exact hG.2.1 f hf
  · intro f w hf hw h3
    rw [s2 f hf] at h3
    rw [s4 f w hf hw h3]
    exact hG.2.2 f w hf hw h3
/-- a frame of the kind 1 or 2 has a used place; another one has none -/
theorem kd12 {σ ρ : KS} (h : rB σ ρ) {f : Nat} (hf : f < 128) : (ρ.1 2 f = nI 1 ∨ ρ.1 2 f = nI 2) ↔ ∃ i, i < 4 ∧ ρ.1 3 (4 * f + i) = 1 := by
  obtain ⟨-, -, hP1, hP2, hO⟩ := h
  have fin : ∀ c : Nat, c < 16 → c ≠ 0 → (∀ i, i < 4 → ρ.1 3 (4 * f + i) = nI (c / 2 ^ i % 2)) → ∃ i, i < 4 ∧ ρ.1 3 (4 * f + i) = 1 := by
    intro c hc h0 hh
    refine Classical.byContradiction fun w => h0 ((bit_0 c hc).mp fun j hj => ?_)
    rcases (show c / 2 ^ j % 2 = 0 ∨ c / 2 ^ j % 2 = 1 by omega) with q | q
    · exact q
    · exact absurd ⟨j, hj, by rw [hh j hj, q]; rfl⟩ w
  constructor
  · intro hk
    rcases hk with hk | hk
    · obtain ⟨a, a1, a2, a3, a4⟩ := hP1 f hf
      exact fin a a1 (a3.mp hk) (a4 (a3.mp hk))
    · obtain ⟨a, a1, a2, a3, a4⟩ := hP2 f hf
      exact fin a a1 (a3.mp hk) (a4 (a3.mp hk))
  · intro ⟨i, hi, hu⟩
    refine Classical.byContradiction fun w => ?_
    have := hO f hf (fun q => w (Or.inl q)) (fun q => w (Or.inr q)) i hi
    rw [hu] at this
    exact absurd this (by decide)
theorem kd_end {σ τ σ0 ρ0 : KS} (h : Rl σ τ) (h0 : Rl σ0 ρ0) (hu : ∀ r, r < 512 → τ.1 3 r = ρ0.1 3 r) (hus : ∀ f, f < 128 → usr τ f = usr ρ0 f) (h5 : ∀ f, f < 128 → τ.1 5 f = ρ0.1 5 f)
    (hH : ∀ f, f < 128 → τ.1 2 f = ρ0.1 2 f ∨ ρ0.1 2 f = 0 ∨ ((ρ0.1 2 f = nI 3 ∨ ρ0.1 2 f = nI 2) ∧ τ.1 2 f = 0)) : ∀ f, f < 128 → τ.1 2 f = ρ0.1 2 f := by
  intro f hf
  have e12 : (τ.1 2 f = nI 1 ∨ τ.1 2 f = nI 2) ↔ (ρ0.1 2 f = nI 1 ∨ ρ0.1 2 f = nI 2) := by
    rw [kd12 h.1 hf, kd12 h0.1 hf]
    constructor
    · intro ⟨i, hi, q⟩; exact ⟨i, hi, by rw [← hu _ (by omega)]; exact q⟩
    · intro ⟨i, hi, q⟩; exact ⟨i, hi, by rw [hu _ (by omega)]; exact q⟩
  have e3 : τ.1 2 f = nI 3 ↔ ρ0.1 2 f = nI 3 := by rw [(h.2.2.2.2.2.2.1.2.1 f hf).2, (h0.2.2.2.2.2.2.1.2.1 f hf).2, hus f hf]
  have e4 : τ.1 2 f = nI 4 ↔ ρ0.1 2 f = nI 4 := by
    rw [h.2.2.1.2.2.1 f hf, h0.2.2.1.2.2.1 f hf]
    constructor
    · intro ⟨k, g, k1, g1, g2, g3, g4⟩; exact ⟨k, g, k1, g1, g2, g3, by rw [← h5 g g1]; exact g4⟩
    · intro ⟨k, g, k1, g1, g2, g3, g4⟩; exact ⟨k, g, k1, g1, g2, g3, by rw [h5 g g1]; exact g4⟩
  obtain ⟨v, v1, v2⟩ := h.2.1 f hf
  rcases hH f hf with q | q | ⟨q, w⟩
  · exact q
  · rw [v2] at e12 e3 e4 ⊢
    rw [q] at e12 e3 e4 ⊢
    rcases (show v = 0 ∨ v = 1 ∨ v = 2 ∨ v = 3 ∨ v = 4 by omega) with rfl | rfl | rfl | rfl | rfl
    · rfl
    · exact absurd (e12.mp (Or.inl rfl)) (by decide)
    · exact absurd (e12.mp (Or.inr rfl)) (by decide)
    · exact absurd (e3.mp rfl) (by decide)
    · exact absurd (e4.mp rfl) (by decide)
  · rcases q with q | q
    · have := e3.mpr q
      rw [w] at this
      exact absurd this (by decide)
    · have := e12.mpr (Or.inr q)
      rw [w] at this
      exact absurd this (by decide)
