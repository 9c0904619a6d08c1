/-! PURE: both begin alike -/
theorem rel_init : Rel sX0 sM0 := by
  have a4 : sX0.1 4 = upd (flm 128) 0 7 := rfl
  have a5 : sX0.1 5 = upd (fun _ => 0) 7 1 := rfl
  have a10 : sX0.1 10 = flm 128 := rfl
  have a12 : sX0.1 12 = flm 16 := rfl
  have m1 : sM0.1 1 = upd (fun _ => 0) 896 1 := rfl
  have m5 : sM0.1 5 = flm 128 := rfl
  have ao : ∀ j, j = 6 ∨ j = 7 ∨ j = 8 ∨ j = 9 ∨ j = 11 ∨ j = 13 ∨ j = 14 → sX0.1 j = fun _ => 0 := fun j hj => by rcases hj with rfl | rfl | rfl | rfl | rfl | rfl | rfl <;> rfl
  have mo : ∀ j, j = 2 ∨ j = 3 ∨ j = 6 ∨ j = 7 ∨ j = 9 → sM0.1 j = fun _ => 0 := fun j hj => by rcases hj with rfl | rfl | rfl | rfl | rfl <;> rfl
  have hz : zs sM0 = fun i => i < 128 := by
    funext i
    refine propext ?_
    unfold zs
    rw [mo 2 (by decide)]
    exact ⟨fun q => q.1, fun q => ⟨q, rfl⟩⟩
  have hfl : ∀ f, f < 128 → flm 128 f = -1 := fun f hf => by unfold flm; rw [if_pos hf]
  have hbk : ∀ p, bk sM0 p = 0 := fun p => by unfold bk; rw [mo 7 (by decide)]; rfl
  have haf : ∀ k f, k < 8 → f < 128 → af (fun i => i < 128) k f := fun k f hk hf i hi => sb_128 hk hf hi
  have hmx : ∀ k f, k < 8 → f < 128 → (mx (fun i => i < 128) k f ↔ k = 7) := by
    intro k f hk hf
    unfold mx
    constructor
    · intro ⟨_, q⟩
      refine Classical.byContradiction fun e => ?_
      exact (q.resolve_left e) (haf (k + 1) f (by omega) hf)
    · intro q; exact ⟨haf k f hk hf, Or.inl q⟩
  have hus : ∀ f, usr sM0 f = 0 := by
    intro f
    unfold usr
    have : ∀ n, sN (fun p => cn (fun k => pgN sM0 p k = f) (bk sM0 p)) n = 0 := by
      intro n
      induction n with
      | zero => rfl
      | succ n ih =>
        show _ + cn _ (bk sM0 n) = 0
        rw [ih, hbk]; rfl
    exact this 16
  refine ⟨⟨⟨⟨fun f k hf hk => ?_, fun f hf => ?_⟩, fun k hk => ?_, ?_⟩, fun f k hf hk => ?_, fun f hf => ?_, fun f hf => ?_, fun f hf _ _ i _ => ?_⟩, fun f hf => ?_, ⟨fun f hf => ?_, fun f hf => ?_, fun i hi => ?_, fun f g k j i f1 g1 k1 j1 _ _ e1 _ _ _ => ?_⟩, fun p hp => ?_, ⟨fun p hp hn => ?_, fun p q hp hq hn => ?_⟩, ⟨fun p t hp ht => ?_, fun p t q u hp hq ht => ?_⟩, ⟨fun p k hp hk => ?_, fun f hf => ?_, fun f w hf hw h3 => ?_⟩, ⟨0, by decide, rfl, rfl, fun i hi => ?_, fun i j hi => ?_, fun p hp hl => ?_⟩, rfl, rfl, rfl⟩
  · rw [hz, a4, hmx k f hk hf]
    by_cases e : f = 0
    · subst e
      rw [upd_eq, Nat.zero_mod]
      exact ⟨fun w => ⟨rfl, ((nI_eq (a := 7) (by decide) (by omega)).mp w).symm⟩, fun w => by rw [w.2]; rfl⟩
    · rw [upd_ne e, hfl f hf]
      refine ⟨fun w => absurd w (m1_nI (by omega)), fun ⟨w1, w2⟩ => ?_⟩
      subst w2
      simp only [Nat.reducePow] at w1
      omega
  · rw [a4]
    by_cases e : f = 0
    · subst e; rw [upd_eq]; exact Or.inr ⟨7, by decide, rfl⟩
    · rw [upd_ne e, hfl f hf]; exact Or.inl rfl
  · rw [a5, a4]
    by_cases e : k = 7
    · subst e
      rw [upd_eq]
      have : cn (fun g => upd (flm 128) 0 7 g = nI 7) 128 = cn (fun _ => False) 128 + 1 := cn_one (f := 0) (by decide) id (by rw [upd_eq]; rfl) (fun i hi hne => ⟨fun w => w.elim, fun w => by rw [upd_ne hne, hfl i hi] at w; exact absurd w (by decide)⟩)
      rw [this, cn_0 (fun _ _ => id)]; rfl
    · rw [upd_ne e, cn_0 (fun i hi w => by
        by_cases e' : i = 0
        · subst e'
          rw [upd_eq] at w
          exact e ((nI_eq (a := 7) (by decide) (by omega)).mp w).symm
        · rw [upd_ne e', hfl i hi] at w
          exact absurd w (m1_nI (by omega)))]
      rfl
  · rw [hz, a4]
    have h1 : cn (fun i => i < 128) 128 = cn (fun i => 0 ≤ i ∧ i < 128) 128 := cn_congr fun i _ => ⟨fun q => ⟨Nat.zero_le _, q⟩, fun q => q.2⟩
    rw [h1, cn_int (Nat.le_refl _)]
    decide +kernel
  · rw [hz, m1, hmx k f hk hf]
    by_cases e : 128 * k + f = 896
    · rw [e, upd_eq]
      refine ⟨Or.inr rfl, fun _ => ?_, fun _ => rfl⟩
      have e7 : k = 7 := by omega
      have e0 : f = 0 := by omega
      subst e7; subst e0
      exact ⟨rfl, rfl⟩
    · rw [upd_ne e]
      refine ⟨Or.inl rfl, fun w => absurd w (by decide), fun ⟨w1, w2⟩ => ?_⟩
      subst w2
      simp only [Nat.reducePow] at w1
      omega
  · rw [ao 6 (by decide), mo 2 (by decide)]
    exact ⟨0, by decide, rfl, ⟨fun w => absurd w (show ¬ (0 : Int32) = nI 1 by decide), fun w => absurd rfl w⟩, fun w => absurd rfl w⟩
  · rw [ao 7 (by decide), mo 2 (by decide)]
    exact ⟨0, by decide, rfl, ⟨fun w => absurd w (show ¬ (0 : Int32) = nI 2 by decide), fun w => absurd rfl w⟩, fun w => absurd rfl w⟩
  · rw [mo 3 (by decide)]
  · rw [mo 2 (by decide)]; exact ⟨0, by decide, rfl⟩
  · rw [a10, m5]
  · rw [m5]; exact Or.inl (hfl f hf)
  · rw [mo 2 (by decide), m5]
    refine ⟨fun w => absurd w (show ¬ (0 : Int32) = nI 4 by decide), fun ⟨k, f, k1, f1, _, _, e⟩ => ?_⟩
    rw [hfl f f1] at e
    exact absurd e (m1_nI (by omega))
  · rw [m5, hfl f f1] at e1
    exact absurd e1 (m1_nI (by omega))
  · rw [ao 11 (by decide), ao 14 (by decide), ao 13 (by decide), mo 6 (by decide), mo 7 (by decide), mo 9 (by decide), hbk, a12]
    refine ⟨rfl, Or.inl rfl, rfl, rfl, by decide, fun _ => rfl, ?_, rfl⟩
    rw [if_pos rfl]
    unfold flm
    rw [if_pos hp]
  · rw [mo 6 (by decide)] at hn; exact absurd rfl hn
  · rw [mo 6 (by decide)] at hn; exact absurd rfl hn
  · rw [hbk] at ht; omega
  · rw [hbk] at ht; omega
  · rw [hbk] at hk; omega
  · rw [ao 9 (by decide), mo 2 (by decide), hus f]
    exact ⟨rfl, fun w => absurd w (show ¬ (0 : Int32) = nI 3 by decide), fun w => absurd w (by decide)⟩
  · rw [mo 2 (by decide)] at h3; exact absurd h3 (show ¬ (0 : Int32) = nI 3 by decide)
  · omega
  · omega
  · rw [mo 6 (by decide)] at hl; exact absurd hl (show ¬ (0 : Int32) = 1 by decide)
