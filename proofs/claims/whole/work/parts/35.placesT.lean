/-! PURE: a place is taken, on both sides -/
theorem isFrame_m {σ : KS} : m_X2_isFrame (-1) σ = some (0, σ) := by unfold m_X2_isFrame; rw [if_pos (by decide)]
theorem lwr_r {σ : KS} : ∀ (n f : Nat), f ≤ 128 → 128 < n + f →
    (∃ h, f ≤ h ∧ h < 128 ∧ ¬ σ.1 6 h = 0 ∧ ¬ σ.1 6 h = 15 ∧ (∀ g, f ≤ g → g < h → σ.1 6 g = 0 ∨ σ.1 6 g = 15) ∧ f_X1r_leastWithRoom_2 n (nI f) σ = some (nI h, σ)) ∨
    ((∀ g, f ≤ g → g < 128 → σ.1 6 g = 0 ∨ σ.1 6 g = 15) ∧ f_X1r_leastWithRoom_2 n (nI f) σ = some (-1, σ)) := by
  intro n
  induction n with
  | zero => intro f h1 h2; omega
  | succ n ih =>
    intro f h1 h2
    rw [f_X1r_leastWithRoom_2]
    by_cases e : f = 128
    · subst e
      right
      refine ⟨fun g a b => by omega, ?_⟩
      rw [if_pos (show (128 : Int32) ≤ nI 128 from nI_le (a := 128) (by omega) (by omega))]
    · have hf : f < 128 := by omega
      rw [if_neg (show ¬ (128 : Int32) ≤ nI f from nI_ge (b := 128) hf (by omega)), chk_nI hf (by decide), chk_nI hf (by decide), rd_nI (by omega), q1, nI_add]
      by_cases hz : σ.1 6 f = 0 ∨ σ.1 6 f = 15
      · have hx : (if σ.1 6 f = 0 then f_X1r_leastWithRoom_2 n (nI (f + 1)) σ else if σ.1 6 f = 15 then f_X1r_leastWithRoom_2 n (nI (f + 1)) σ else some (nI f, σ)) = f_X1r_leastWithRoom_2 n (nI (f + 1)) σ := by
          rcases hz with q | q
          · rw [if_pos q]
          · rw [if_pos q]; split <;> rfl
        rw [hx]
        rcases ih (f + 1) (by omega) (by omega) with ⟨h, a, b, c, d, g0, r⟩ | ⟨g0, r⟩
        · left
          refine ⟨h, by omega, b, c, d, fun g a1 b1 => ?_, r⟩
          rcases Nat.lt_or_ge f g with q | q
          · exact g0 g q b1
          · have : g = f := by omega
            subst this; exact hz
        · right
          refine ⟨fun g a1 b1 => ?_, r⟩
          rcases Nat.lt_or_ge f g with q | q
          · exact g0 g q b1
          · have : g = f := by omega
            subst this; exact hz
      · left
        refine ⟨f, Nat.le_refl _, hf, fun q => hz (Or.inl q), fun q => hz (Or.inr q), fun g a b => by omega, ?_⟩
        rw [if_neg (fun q => hz (Or.inl q)), if_neg (fun q => hz (Or.inr q))]
theorem takePlace_r {σ : KS} {f a : Nat} (hf : f < 128) (ha : a < 16) (hσ : σ.1 6 f = nI a) (hz : lz a < 4) : f_X1r_takePlace_30 FU (nI f) 0 σ = some (nI (4 * f + lz a), wr σ 6 (nI f) (nI (a + 2 ^ lz a))) := by
  have st : ∀ (n i : Nat), i < 4 → f_X1r_takePlace_30 (n + 1) (nI f) (nI i) σ = if a / 2 ^ i % 2 = 0 then some (nI (4 * f + i), wr σ 6 (nI f) (nI (a + 2 ^ i))) else f_X1r_takePlace_30 n (nI f) (nI (i + 1)) σ := by
    intro n i hi
    rw [f_X1r_takePlace_30, if_neg (show ¬ (4 : Int32) ≤ nI i from nI_ge (b := 4) hi (by omega)), chk_nI hf (by decide), chk_nI hf (by decide), rd_nI (by omega), hσ, nI4, show nI i + 1 = nI (i + 1) from nI_1 i]
    by_cases hb : a / 2 ^ i % 2 = 0
    · rw [if_pos ((bit_t a ha i hi).mpr hb), if_pos hb, chk_nI hf (by decide), bit_s a ha i hi hb]
    · rw [if_neg (fun q => hb ((bit_t a ha i hi).mp q)), if_neg hb]
  rw [q0, show FU = 1096 + 1 + 1 + 1 + 1 from rfl, st _ 0 (by omega), st _ 1 (by omega), st _ 2 (by omega), st _ 3 (by omega)]
  revert hz
  unfold lz
  simp only [Nat.reducePow]
  by_cases h0 : a % 2 = 0
  · simp [h0]
  by_cases h1 : a / 2 % 2 = 0
  · simp [h0, h1]
  by_cases h2 : a / 4 % 2 = 0
  · simp [h0, h1, h2]
  by_cases h3 : a / 8 % 2 = 0
  · simp [h0, h1, h2, h3]
  · simp [h0, h1, h2, h3]
/-- the pair of a take of a place -/
theorem pairT_r {σ ρ : KS} (h : rB σ ρ) : ∃ (r : Int32) (σ' ρ' : KS), m_X1r_takePlace σ = some (r, σ') ∧ m_X3_takeSmall (nI 1) ρ = some (r, ρ') ∧
    ((r = -1 ∧ σ' = σ ∧ ρ' = ρ) ∨ ∃ p, p < 512 ∧ r = nI p ∧ ρ.1 3 p = 0 ∧ (ρ.1 2 (p / 4) = nI 1 ∨ ρ.1 2 (p / 4) = 0) ∧ sam [4, 5, 6] σ σ' ∧ sam [1, 2, 3] ρ ρ' ∧ ρ'.1 2 = upd (ρ.1 2) (p / 4) (nI 1) ∧ ρ'.1 3 = upd (ρ.1 3) p 1 ∧ rB σ' ρ') := by
  obtain ⟨hB, hC, hP1, hP2, hO⟩ := h
  have key : ∀ g, g < 128 → ((ρ.1 2 g = nI 1 ∧ fz (ρ.1 3) g < 4) ↔ ¬ (σ.1 6 g = 0 ∨ σ.1 6 g = 15)) := by
    intro g hg
    obtain ⟨a, h1, h2, h3, h4⟩ := hP1 g hg
    have e0 : σ.1 6 g = 0 ↔ a = 0 := by rw [h2]; exact nI_01 (by omega)
    have e15 : σ.1 6 g = 15 ↔ a = 15 := by rw [h2]; exact nI_eq (b := 15) (by omega) (by decide)
    rw [h3, e0, e15]
    constructor
    · intro ⟨q1, q2⟩ q
      rw [fz_lz h1 (h4 q1)] at q2
      exact q.elim q1 ((lz_15 a h1).mp q2)
    · intro q
      have q1 : a ≠ 0 := fun w => q (Or.inl w)
      refine ⟨q1, ?_⟩
      rw [fz_lz h1 (h4 q1)]
      exact (lz_15 a h1).mpr (fun w => q (Or.inr w))
  unfold m_X1r_takePlace
  rcases lwr_r (σ := σ) FU 0 (by omega) (by decide) with ⟨h, -, a2, a3, a4, a5, r⟩ | ⟨a5, r⟩
  · -- a frame with room
    rw [bnd_eq (show m_X1r_leastWithRoom σ = _ from r), if_neg (nI_m1 (by omega)), bnd_eq (isFrame_t a2), if_neg (by decide)]
    obtain ⟨a, b1, b2, b3, b4⟩ := hP1 h a2
    have hG := (key h a2).mpr (fun q => q.elim a3 a4)
    have hne : a ≠ 0 := b3.mp hG.1
    have hlz : fz (ρ.1 3) h = lz a := fz_lz b1 (b4 hne)
    have hl4 : lz a < 4 := by rw [← hlz]; exact hG.2
    rw [takePlace_r a2 b1 b2 hl4]
    rcases takeSmall_M (ρ := ρ) (s := 1) (by decide) (by decide) hC with ⟨h', c1, c2, c3, c4, c5⟩ | ⟨c4, -⟩
    · have he : h' = h := by
        rcases Nat.lt_trichotomy h h' with q | q | q
        · exact absurd hG (c4 h q)
        · exact q.symm
        · exact absurd (a5 h' (Nat.zero_le _) q) ((key h' c1).mp ⟨c2, c3⟩)
      subst he
      rw [hlz] at c5
      generalize hp : 4 * h' + lz a = p at c5 ⊢
      have hp4 : p / 4 = h' := by omega
      have hbit := lz_b a b1 hl4
      obtain ⟨d1, d2⟩ := bit_a a b1 (lz a) hl4 hbit
      have hupd : upd (ρ.1 2) h' (nI 1) = ρ.1 2 := by
        funext i
        by_cases e : i = h'
        · subst e; rw [upd_eq]; exact hG.1.symm
        · rw [upd_ne e]
      have hz : zs (wr ρ 3 (nI p) 1) = zs ρ := by
        funext i; unfold zs; rw [wr_ne (by decide)]
      refine ⟨nI p, _, _, rfl, c5, Or.inr ⟨p, by omega, rfl, ?_, Or.inl (by rw [hp4]; exact hG.1), sam.wr (by decide), sam.wr (by decide), ?_, ?_, ?_⟩⟩
      · rw [← hp, b4 hne (lz a) hl4, hbit]; rfl
      · rw [wr_ne (by decide), hp4, hupd]
      · rw [wr_at (by omega)]
      · refine ⟨?_, ?_, ?_, ?_, ?_⟩
        · rw [hz]; exact hB.same (wr_ne (by decide)) (wr_ne (by decide))
        · rw [hz, wr_ne (by decide)]; exact hC
        · intro g hg
          by_cases e : g = h'
          · subst e
            refine ⟨a + 2 ^ lz a, d1, by rw [wr_at (by omega), upd_eq], ?_, ?_⟩
            · rw [wr_ne (by decide)]; exact ⟨fun _ => by have := Nat.two_pow_pos (lz a); omega, fun _ => hG.1⟩
            · intro _ i hi
              rw [wr_at (by omega), d2 i hi]
              by_cases ei : i = lz a
              · subst ei; rw [if_pos rfl, ← hp, upd_eq]; rfl
              · rw [if_neg ei, upd_ne (by omega), b4 hne i hi]
          · obtain ⟨a', b1', b2', b3', b4'⟩ := hP1 g hg
            refine ⟨a', b1', by rw [wr_at (by omega), upd_ne e, b2'], by rw [wr_ne (by decide)]; exact b3', fun w i hi => by rw [wr_at (by omega), upd_ne (by omega)]; exact b4' w i hi⟩
        · intro g hg
          obtain ⟨a', b1', b2', b3', b4'⟩ := hP2 g hg
          refine ⟨a', b1', by rw [wr_ne (by decide), b2'], by rw [wr_ne (by decide)]; exact b3', fun w i hi => ?_⟩
          have hgk := b3'.mpr w
          rw [wr_at (by omega), upd_ne (by
            intro e
            have : g = h' := by omega
            subst this
            rw [hG.1] at hgk
            exact absurd hgk (by decide))]
          exact b4' w i hi
        · intro g hg n1 n2 i hi
          rw [wr_ne (by decide)] at n1 n2
          rw [wr_at (by omega), upd_ne (by
            intro e
            have : g = h' := by omega
            subst this
            first | exact n1 hG.1 | exact n2 hG.1)]
          exact hO g hg n1 n2 i hi
    · exact absurd hG (c4 h a2)
  · -- none with room
    rw [bnd_eq (show m_X1r_leastWithRoom σ = _ from r), if_pos rfl, q0]
    have hno : ∀ g, g < 128 → ¬ (ρ.1 2 g = nI 1 ∧ fz (ρ.1 3) g < 4) := fun g hg q => (key g hg).mp q (a5 g (Nat.zero_le _) hg)
    rcases takeSmall_M (ρ := ρ) (s := 1) (by decide) (by decide) hC with ⟨h', c1, c2, c3, c4, c5⟩ | ⟨-, c⟩
    · exact absurd ⟨c2, c3⟩ (hno h' c1)
    · rcases take_X hB (o := 0) (by decide) with ⟨k, f, σ1, hl, r1, s1, cb1⟩ | ⟨hn, r1⟩
      · rcases c with ⟨k', f', ρ1, hl', r2, s2, e2, cr2, ez⟩ | ⟨hn', -⟩
        · obtain ⟨hk, hf'⟩ := hl.uniq hl'
          subst hk; subst hf'
          have hf : f' < 128 := hl.2.2.1
          have hfree : ρ.1 2 f' = 0 := (hl.2.2.2.2.1.1 f' sb.rfl').2
          obtain ⟨a, b1, b2, b3, b4⟩ := hP1 f' hf
          have ha0 : a = 0 := by
            rcases Nat.eq_zero_or_pos a with q | q
            · exact q
            · have := b3.mpr (by omega); rw [hfree] at this; exact absurd this (by decide)
          subst ha0
          rw [bnd_eq r1, bnd_eq (isFrame_t hf), if_neg (by decide), ← q0, takePlace_r hf (a := 0) (by decide) (by rw [s1.2 6 (by decide), b2]) (by decide)]
          have hu0 : ∀ i, i < 4 → ρ.1 3 (4 * f' + i) = 0 := fun i hi => hO f' hf (by rw [hfree]; decide) (by rw [hfree]; decide) i hi
          have hz : zs (wr ρ1 3 (nI (4 * f')) 1) = zm (zs ρ) 0 f' := by
            rw [← ez]; funext i; unfold zs; rw [wr_ne (by decide)]
          have e3 : ρ1.1 3 = ρ.1 3 := s2.2 3 (by decide)
          refine ⟨nI (4 * f'), _, _, rfl, r2, Or.inr ⟨4 * f', by omega, rfl, hu0 0 (by omega), Or.inr (by rw [show 4 * f' / 4 = f' by omega]; exact hfree), (s1.mono (by decide)).trans (sam.wr (by decide)), (s2.mono (by decide)).trans (sam.wr (by decide)), ?_, ?_, ?_⟩⟩
          · rw [wr_ne (by decide), e2, show 4 * f' / 4 = f' by omega]
          · rw [wr_at (by omega), e3]
          · refine ⟨?_, ?_, ?_, ?_, ?_⟩
            · rw [hz]; exact cb1.same (wr_ne (by decide)) (wr_ne (by decide))
            · rw [hz, wr_ne (by decide), ← ez]; exact cr2
            · intro g hg
              by_cases e : g = f'
              · subst e
                refine ⟨1, by decide, by rw [wr_at (by omega), upd_eq]; rfl, ?_, ?_⟩
                · rw [wr_ne (by decide), e2, upd_eq]; exact ⟨fun _ => by decide, fun _ => rfl⟩
                · intro _ i hi
                  rw [wr_at (by omega), e3]
                  rcases (show i = 0 ∨ i = 1 ∨ i = 2 ∨ i = 3 by omega) with rfl | rfl | rfl | rfl
                  · rw [show 4 * g + 0 = 4 * g from rfl, upd_eq]; rfl
                  · rw [upd_ne (by omega), hu0 1 (by omega)]; rfl
                  · rw [upd_ne (by omega), hu0 2 (by omega)]; rfl
                  · rw [upd_ne (by omega), hu0 3 (by omega)]; rfl
              · obtain ⟨a', b1', b2', b3', b4'⟩ := hP1 g hg
                refine ⟨a', b1', by rw [wr_at (by omega), upd_ne e, s1.2 6 (by decide), b2'], by rw [wr_ne (by decide), e2, upd_ne e]; exact b3', fun w i hi => by rw [wr_at (by omega), upd_ne (by omega), e3]; exact b4' w i hi⟩
            · intro g hg
              obtain ⟨a', b1', b2', b3', b4'⟩ := hP2 g hg
              by_cases e : g = f'
              · subst e
                have ha0 : a' = 0 := by
                  rcases Nat.eq_zero_or_pos a' with q | q
                  · exact q
                  · have := b3'.mpr (by omega); rw [hfree] at this; exact absurd this (by decide)
                refine ⟨a', b1', by rw [wr_ne (by decide), s1.2 7 (by decide), b2'], ?_, fun w => absurd ha0 w⟩
                rw [wr_ne (by decide), e2, upd_eq]
                exact ⟨fun q => absurd q (by decide), fun q => absurd ha0 q⟩
              · refine ⟨a', b1', by rw [wr_ne (by decide), s1.2 7 (by decide), b2'], by rw [wr_ne (by decide), e2, upd_ne e]; exact b3', fun w i hi => by rw [wr_at (by omega), upd_ne (by omega), e3]; exact b4' w i hi⟩
            · intro g hg n1 n2 i hi
              rw [wr_ne (by decide), e2] at n1 n2
              by_cases e : g = f'
              · subst e
                rw [upd_eq] at n1 n2
                first | exact absurd rfl n1 | exact absurd rfl n2
              · rw [upd_ne e] at n1 n2
                rw [wr_at (by omega), upd_ne (by omega), e3]
                exact hO g hg n1 n2 i hi
        · exact absurd hn' (fun q => hl.not q)
      · rcases c with ⟨k', f', ρ1, hl', -⟩ | ⟨hn', r2⟩
        · exact absurd hn (fun q => hl'.not q)
        · refine ⟨-1, σ, ρ, ?_, r2, Or.inl ⟨rfl, rfl, rfl⟩⟩
          rw [bnd_eq r1, bnd_eq isFrame_m, if_pos (show (0 : Int32) = nI 0 from rfl)]
theorem lwr_t {σ : KS} : ∀ (n f : Nat), f ≤ 128 → 128 < n + f →
    (∃ h, f ≤ h ∧ h < 128 ∧ ¬ σ.1 7 h = 0 ∧ ¬ σ.1 7 h = 15 ∧ (∀ g, f ≤ g → g < h → σ.1 7 g = 0 ∨ σ.1 7 g = 15) ∧ f_X1t_leastWithRoom_2 n (nI f) σ = some (nI h, σ)) ∨
    ((∀ g, f ≤ g → g < 128 → σ.1 7 g = 0 ∨ σ.1 7 g = 15) ∧ f_X1t_leastWithRoom_2 n (nI f) σ = some (-1, σ)) := by
  intro n
  induction n with
  | zero => intro f h1 h2; omega
  | succ n ih =>
    intro f h1 h2
    rw [f_X1t_leastWithRoom_2]
    by_cases e : f = 128
    · subst e
      right
      refine ⟨fun g a b => by omega, ?_⟩
      rw [if_pos (show (128 : Int32) ≤ nI 128 from nI_le (a := 128) (by omega) (by omega))]
    · have hf : f < 128 := by omega
      rw [if_neg (show ¬ (128 : Int32) ≤ nI f from nI_ge (b := 128) hf (by omega)), chk_nI hf (by decide), chk_nI hf (by decide), rd_nI (by omega), q1, nI_add]
      by_cases hz : σ.1 7 f = 0 ∨ σ.1 7 f = 15
      · have hx : (if σ.1 7 f = 0 then f_X1t_leastWithRoom_2 n (nI (f + 1)) σ else if σ.1 7 f = 15 then f_X1t_leastWithRoom_2 n (nI (f + 1)) σ else some (nI f, σ)) = f_X1t_leastWithRoom_2 n (nI (f + 1)) σ := by
          rcases hz with q | q
          · rw [if_pos q]
          · rw [if_pos q]; split <;> rfl
        rw [hx]
        rcases ih (f + 1) (by omega) (by omega) with ⟨h, a, b, c, d, g0, r⟩ | ⟨g0, r⟩
        · left
          refine ⟨h, by omega, b, c, d, fun g a1 b1 => ?_, r⟩
          rcases Nat.lt_or_ge f g with q | q
          · exact g0 g q b1
          · have : g = f := by omega
            subst this; exact hz
        · right
          refine ⟨fun g a1 b1 => ?_, r⟩
          rcases Nat.lt_or_ge f g with q | q
          · exact g0 g q b1
          · have : g = f := by omega
            subst this; exact hz
      · left
        refine ⟨f, Nat.le_refl _, hf, fun q => hz (Or.inl q), fun q => hz (Or.inr q), fun g a b => by omega, ?_⟩
        rw [if_neg (fun q => hz (Or.inl q)), if_neg (fun q => hz (Or.inr q))]
theorem takePlace_t {σ : KS} {f a : Nat} (hf : f < 128) (ha : a < 16) (hσ : σ.1 7 f = nI a) (hz : lz a < 4) : f_X1t_takePlace_30 FU (nI f) 0 σ = some (nI (4 * f + lz a), wr σ 7 (nI f) (nI (a + 2 ^ lz a))) := by
  have st : ∀ (n i : Nat), i < 4 → f_X1t_takePlace_30 (n + 1) (nI f) (nI i) σ = if a / 2 ^ i % 2 = 0 then some (nI (4 * f + i), wr σ 7 (nI f) (nI (a + 2 ^ i))) else f_X1t_takePlace_30 n (nI f) (nI (i + 1)) σ := by
    intro n i hi
    rw [f_X1t_takePlace_30, if_neg (show ¬ (4 : Int32) ≤ nI i from nI_ge (b := 4) hi (by omega)), chk_nI hf (by decide), chk_nI hf (by decide), rd_nI (by omega), hσ, nI4, show nI i + 1 = nI (i + 1) from nI_1 i]
    by_cases hb : a / 2 ^ i % 2 = 0
    · rw [if_pos ((bit_t a ha i hi).mpr hb), if_pos hb, chk_nI hf (by decide), bit_s a ha i hi hb]
    · rw [if_neg (fun q => hb ((bit_t a ha i hi).mp q)), if_neg hb]
  rw [q0, show FU = 1096 + 1 + 1 + 1 + 1 from rfl, st _ 0 (by omega), st _ 1 (by omega), st _ 2 (by omega), st _ 3 (by omega)]
  revert hz
  unfold lz
  simp only [Nat.reducePow]
  by_cases h0 : a % 2 = 0
  · simp [h0]
  by_cases h1 : a / 2 % 2 = 0
  · simp [h0, h1]
  by_cases h2 : a / 4 % 2 = 0
  · simp [h0, h1, h2]
  by_cases h3 : a / 8 % 2 = 0
  · simp [h0, h1, h2, h3]
  · simp [h0, h1, h2, h3]
/-- the pair of a take of a place -/
theorem pairT_t {σ ρ : KS} (h : rB σ ρ) : ∃ (r : Int32) (σ' ρ' : KS), m_X1t_takePlace σ = some (r, σ') ∧ m_X3_takeSmall (nI 2) ρ = some (r, ρ') ∧
    ((r = -1 ∧ σ' = σ ∧ ρ' = ρ) ∨ ∃ p, p < 512 ∧ r = nI p ∧ ρ.1 3 p = 0 ∧ (ρ.1 2 (p / 4) = nI 2 ∨ ρ.1 2 (p / 4) = 0) ∧ sam [4, 5, 7] σ σ' ∧ sam [1, 2, 3] ρ ρ' ∧ ρ'.1 2 = upd (ρ.1 2) (p / 4) (nI 2) ∧ ρ'.1 3 = upd (ρ.1 3) p 1 ∧ rB σ' ρ') := by
  obtain ⟨hB, hC, hP1, hP2, hO⟩ := h
  have key : ∀ g, g < 128 → ((ρ.1 2 g = nI 2 ∧ fz (ρ.1 3) g < 4) ↔ ¬ (σ.1 7 g = 0 ∨ σ.1 7 g = 15)) := by
    intro g hg
    obtain ⟨a, h1, h2, h3, h4⟩ := hP2 g hg
    have e0 : σ.1 7 g = 0 ↔ a = 0 := by rw [h2]; exact nI_01 (by omega)
    have e15 : σ.1 7 g = 15 ↔ a = 15 := by rw [h2]; exact nI_eq (b := 15) (by omega) (by decide)
    rw [h3, e0, e15]
    constructor
    · intro ⟨q1, q2⟩ q
      rw [fz_lz h1 (h4 q1)] at q2
      exact q.elim q1 ((lz_15 a h1).mp q2)
    · intro q
      have q1 : a ≠ 0 := fun w => q (Or.inl w)
      refine ⟨q1, ?_⟩
      rw [fz_lz h1 (h4 q1)]
      exact (lz_15 a h1).mpr (fun w => q (Or.inr w))
  unfold m_X1t_takePlace
  rcases lwr_t (σ := σ) FU 0 (by omega) (by decide) with ⟨h, -, a2, a3, a4, a5, r⟩ | ⟨a5, r⟩
  · -- a frame with room
    rw [bnd_eq (show m_X1t_leastWithRoom σ = _ from r), if_neg (nI_m1 (by omega)), bnd_eq (isFrame_t a2), if_neg (by decide)]
    obtain ⟨a, b1, b2, b3, b4⟩ := hP2 h a2
    have hG := (key h a2).mpr (fun q => q.elim a3 a4)
    have hne : a ≠ 0 := b3.mp hG.1
    have hlz : fz (ρ.1 3) h = lz a := fz_lz b1 (b4 hne)
    have hl4 : lz a < 4 := by rw [← hlz]; exact hG.2
    rw [takePlace_t a2 b1 b2 hl4]
    rcases takeSmall_M (ρ := ρ) (s := 2) (by decide) (by decide) hC with ⟨h', c1, c2, c3, c4, c5⟩ | ⟨c4, -⟩
    · have he : h' = h := by
        rcases Nat.lt_trichotomy h h' with q | q | q
        · exact absurd hG (c4 h q)
        · exact q.symm
        · exact absurd (a5 h' (Nat.zero_le _) q) ((key h' c1).mp ⟨c2, c3⟩)
      subst he
      rw [hlz] at c5
      generalize hp : 4 * h' + lz a = p at c5 ⊢
      have hp4 : p / 4 = h' := by omega
      have hbit := lz_b a b1 hl4
      obtain ⟨d1, d2⟩ := bit_a a b1 (lz a) hl4 hbit
      have hupd : upd (ρ.1 2) h' (nI 2) = ρ.1 2 := by
        funext i
        by_cases e : i = h'
        · subst e; rw [upd_eq]; exact hG.1.symm
        · rw [upd_ne e]
      have hz : zs (wr ρ 3 (nI p) 1) = zs ρ := by
        funext i; unfold zs; rw [wr_ne (by decide)]
      refine ⟨nI p, _, _, rfl, c5, Or.inr ⟨p, by omega, rfl, ?_, Or.inl (by rw [hp4]; exact hG.1), sam.wr (by decide), sam.wr (by decide), ?_, ?_, ?_⟩⟩
      · rw [← hp, b4 hne (lz a) hl4, hbit]; rfl
      · rw [wr_ne (by decide), hp4, hupd]
      · rw [wr_at (by omega)]
      · refine ⟨?_, ?_, ?_, ?_, ?_⟩
        · rw [hz]; exact hB.same (wr_ne (by decide)) (wr_ne (by decide))
        · rw [hz, wr_ne (by decide)]; exact hC
        · intro g hg
          obtain ⟨a', b1', b2', b3', b4'⟩ := hP1 g hg
          refine ⟨a', b1', by rw [wr_ne (by decide), b2'], by rw [wr_ne (by decide)]; exact b3', fun w i hi => ?_⟩
          have hgk := b3'.mpr w
          rw [wr_at (by omega), upd_ne (by
            intro e
            have : g = h' := by omega
            subst this
            rw [hG.1] at hgk
            exact absurd hgk (by decide))]
          exact b4' w i hi
        · intro g hg
          by_cases e : g = h'
          · subst e
            refine ⟨a + 2 ^ lz a, d1, by rw [wr_at (by omega), upd_eq], ?_, ?_⟩
            · rw [wr_ne (by decide)]; exact ⟨fun _ => by have := Nat.two_pow_pos (lz a); omega, fun _ => hG.1⟩
            · intro _ i hi
              rw [wr_at (by omega), d2 i hi]
              by_cases ei : i = lz a
              · subst ei; rw [if_pos rfl, ← hp, upd_eq]; rfl
              · rw [if_neg ei, upd_ne (by omega), b4 hne i hi]
          · obtain ⟨a', b1', b2', b3', b4'⟩ := hP2 g hg
            refine ⟨a', b1', by rw [wr_at (by omega), upd_ne e, b2'], by rw [wr_ne (by decide)]; exact b3', fun w i hi => by rw [wr_at (by omega), upd_ne (by omega)]; exact b4' w i hi⟩
        · intro g hg n1 n2 i hi
          rw [wr_ne (by decide)] at n1 n2
          rw [wr_at (by omega), upd_ne (by
            intro e
            have : g = h' := by omega
            subst this
            first | exact n1 hG.1 | exact n2 hG.1)]
          exact hO g hg n1 n2 i hi
    · exact absurd hG (c4 h a2)
  · -- none with room
    rw [bnd_eq (show m_X1t_leastWithRoom σ = _ from r), if_pos rfl, q0]
    have hno : ∀ g, g < 128 → ¬ (ρ.1 2 g = nI 2 ∧ fz (ρ.1 3) g < 4) := fun g hg q => (key g hg).mp q (a5 g (Nat.zero_le _) hg)
    rcases takeSmall_M (ρ := ρ) (s := 2) (by decide) (by decide) hC with ⟨h', c1, c2, c3, c4, c5⟩ | ⟨-, c⟩
    · exact absurd ⟨c2, c3⟩ (hno h' c1)
    · rcases take_X hB (o := 0) (by decide) with ⟨k, f, σ1, hl, r1, s1, cb1⟩ | ⟨hn, r1⟩
      · rcases c with ⟨k', f', ρ1, hl', r2, s2, e2, cr2, ez⟩ | ⟨hn', -⟩
        · obtain ⟨hk, hf'⟩ := hl.uniq hl'
          subst hk; subst hf'
          have hf : f' < 128 := hl.2.2.1
          have hfree : ρ.1 2 f' = 0 := (hl.2.2.2.2.1.1 f' sb.rfl').2
          obtain ⟨a, b1, b2, b3, b4⟩ := hP2 f' hf
          have ha0 : a = 0 := by
            rcases Nat.eq_zero_or_pos a with q | q
            · exact q
            · have := b3.mpr (by omega); rw [hfree] at this; exact absurd this (by decide)
          subst ha0
          rw [bnd_eq r1, bnd_eq (isFrame_t hf), if_neg (by decide), ← q0, takePlace_t hf (a := 0) (by decide) (by rw [s1.2 7 (by decide), b2]) (by decide)]
          have hu0 : ∀ i, i < 4 → ρ.1 3 (4 * f' + i) = 0 := fun i hi => hO f' hf (by rw [hfree]; decide) (by rw [hfree]; decide) i hi
          have hz : zs (wr ρ1 3 (nI (4 * f')) 1) = zm (zs ρ) 0 f' := by
            rw [← ez]; funext i; unfold zs; rw [wr_ne (by decide)]
          have e3 : ρ1.1 3 = ρ.1 3 := s2.2 3 (by decide)
          refine ⟨nI (4 * f'), _, _, rfl, r2, Or.inr ⟨4 * f', by omega, rfl, hu0 0 (by omega), Or.inr (by rw [show 4 * f' / 4 = f' by omega]; exact hfree), (s1.mono (by decide)).trans (sam.wr (by decide)), (s2.mono (by decide)).trans (sam.wr (by decide)), ?_, ?_, ?_⟩⟩
          · rw [wr_ne (by decide), e2, show 4 * f' / 4 = f' by omega]
          · rw [wr_at (by omega), e3]
          · refine ⟨?_, ?_, ?_, ?_, ?_⟩
            · rw [hz]; exact cb1.same (wr_ne (by decide)) (wr_ne (by decide))
            · rw [hz, wr_ne (by decide), ← ez]; exact cr2
            · intro g hg
              obtain ⟨a', b1', b2', b3', b4'⟩ := hP1 g hg
              by_cases e : g = f'
              · subst e
                have ha0 : a' = 0 := by
                  rcases Nat.eq_zero_or_pos a' with q | q
                  · exact q
                  · have := b3'.mpr (by omega); rw [hfree] at this; exact absurd this (by decide)
                refine ⟨a', b1', by rw [wr_ne (by decide), s1.2 6 (by decide), b2'], ?_, fun w => absurd ha0 w⟩
                rw [wr_ne (by decide), e2, upd_eq]
                exact ⟨fun q => absurd q (by decide), fun q => absurd ha0 q⟩
              · refine ⟨a', b1', by rw [wr_ne (by decide), s1.2 6 (by decide), b2'], by rw [wr_ne (by decide), e2, upd_ne e]; exact b3', fun w i hi => by rw [wr_at (by omega), upd_ne (by omega), e3]; exact b4' w i hi⟩
            · intro g hg
              by_cases e : g = f'
              · subst e
                refine ⟨1, by decide, by rw [wr_at (by omega), upd_eq]; rfl, ?_, ?_⟩
                · rw [wr_ne (by decide), e2, upd_eq]; exact ⟨fun _ => by decide, fun _ => rfl⟩
                · intro _ i hi
                  rw [wr_at (by omega), e3]
                  rcases (show i = 0 ∨ i = 1 ∨ i = 2 ∨ i = 3 by omega) with rfl | rfl | rfl | rfl
                  · rw [show 4 * g + 0 = 4 * g from rfl, upd_eq]; rfl
                  · rw [upd_ne (by omega), hu0 1 (by omega)]; rfl
                  · rw [upd_ne (by omega), hu0 2 (by omega)]; rfl
                  · rw [upd_ne (by omega), hu0 3 (by omega)]; rfl
              · obtain ⟨a', b1', b2', b3', b4'⟩ := hP2 g hg
                refine ⟨a', b1', by rw [wr_at (by omega), upd_ne e, s1.2 7 (by decide), b2'], by rw [wr_ne (by decide), e2, upd_ne e]; exact b3', fun w i hi => by rw [wr_at (by omega), upd_ne (by omega), e3]; exact b4' w i hi⟩
            · intro g hg n1 n2 i hi
              rw [wr_ne (by decide), e2] at n1 n2
              by_cases e : g = f'
              · subst e
                rw [upd_eq] at n1 n2
                first | exact absurd rfl n1 | exact absurd rfl n2
              · rw [upd_ne e] at n1 n2
                rw [wr_at (by omega), upd_ne (by omega), e3]
                exact hO g hg n1 n2 i hi
        · exact absurd hn' (fun q => hl.not q)
      · rcases c with ⟨k', f', ρ1, hl', -⟩ | ⟨hn', r2⟩
        · exact absurd hn (fun q => hl'.not q)
        · refine ⟨-1, σ, ρ, ?_, r2, Or.inl ⟨rfl, rfl, rfl⟩⟩
          rw [bnd_eq r1, bnd_eq isFrame_m, if_pos (show (0 : Int32) = nI 0 from rfl)]
