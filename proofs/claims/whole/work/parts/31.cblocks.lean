/-! PURE: numbers, cells of a state, the class's blocks -/
theorem q0 : (0 : Int32) = nI 0 := rfl
theorem q1 : (1 : Int32) = nI 1 := rfl
theorem q2 : (2 : Int32) = nI 2 := rfl
theorem q3 : (3 : Int32) = nI 3 := rfl
theorem q4 : (4 : Int32) = nI 4 := rfl
theorem q7 : (7 : Int32) = nI 7 := rfl
theorem q8 : (8 : Int32) = nI 8 := rfl
theorem q15 : (15 : Int32) = nI 15 := rfl
theorem q16 : (16 : Int32) = nI 16 := rfl
theorem q31 : (31 : Int32) = nI 31 := rfl
theorem q64 : (64 : Int32) = nI 64 := rfl
theorem q128 : (128 : Int32) = nI 128 := rfl
theorem q256 : (256 : Int32) = nI 256 := rfl
theorem q512 : (512 : Int32) = nI 512 := rfl
theorem q1024 : (1024 : Int32) = nI 1024 := rfl
theorem q8192 : (8192 : Int32) = nI 8192 := rfl
theorem rd_nI {σ : KS} {k i : Nat} (h : i < 2 ^ 31) : rd σ k (nI i) = σ.1 k i := by unfold rd; rw [nI_clamp h]
theorem wr_at {σ : KS} {k i : Nat} {x : Int32} (h : i < 2 ^ 31) : (wr σ k (nI i) x).1 k = upd (σ.1 k) i x := by
  unfold wr; rw [nI_clamp h]; simp [va_up]
theorem wr_ne {σ : KS} {k k' : Nat} {i x : Int32} (h : k' ≠ k) : (wr σ k i x).1 k' = σ.1 k' := by unfold wr; simp [va_up, h]
theorem wr_2 {σ : KS} {k : Nat} {i x : Int32} : (wr σ k i x).2 = σ.2 := rfl
theorem sv_1 {σ : KS} {j : Nat} {x : Int32} : (sv σ j x).1 = σ.1 := rfl
theorem sv_at {σ : KS} {j : Nat} {x : Int32} : (sv σ j x).2 j = x := by simp [sv, va_up]
theorem sv_ne {σ : KS} {j j' : Nat} {x : Int32} (h : j' ≠ j) : (sv σ j x).2 j' = σ.2 j' := by simp [sv, va_up, h]
theorem chk_nI {i n : Nat} {k : KR} (h : i < n) (hn : n < 2 ^ 31) : chk (nI i) n k = k := by
  unfold chk
  rw [if_pos]
  rw [nI_toInt (by omega)]
  omega
theorem bnd_eq {x : KR} {a : Int32} {s : KS} {f : Int32 → KS → KR} (h : x = some (a, s)) : bnd x f = f a s := by rw [h]; rfl
/-- all but some rows are the same -/
def sam (l : List Nat) (σ σ' : KS) : Prop := σ'.2 = σ.2 ∧ ∀ k, k ∉ l → σ'.1 k = σ.1 k
theorem sam.refl {l : List Nat} {σ : KS} : sam l σ σ := ⟨rfl, fun _ _ => rfl⟩
theorem sam.trans {l : List Nat} {σ τ υ : KS} (h : sam l σ τ) (h2 : sam l τ υ) : sam l σ υ := ⟨h2.1.trans h.1, fun k hk => (h2.2 k hk).trans (h.2 k hk)⟩
theorem sam.wr {l : List Nat} {σ : KS} {k : Nat} {i x : Int32} (h : k ∈ l) : sam l σ (wr σ k i x) := ⟨rfl, fun j hj => wr_ne (fun e => hj (e ▸ h))⟩
theorem sam.mono {l l' : List Nat} {σ τ : KS} (h : sam l σ τ) (hl : ∀ k ∈ l, k ∈ l') : sam l' σ τ := ⟨h.1, fun k hk => h.2 k (fun q => hk (hl k q))⟩
theorem pw8 {k : Nat} (h : k < 8) : 2 ^ k ≤ 128 ∧ 0 < 2 ^ k := by
  rcases (show k = 0 ∨ k = 1 ∨ k = 2 ∨ k = 3 ∨ k = 4 ∨ k = 5 ∨ k = 6 ∨ k = 7 by omega) with rfl | rfl | rfl | rfl | rfl | rfl | rfl | rfl <;> decide
theorem al_le {k f : Nat} (hk : k < 8) (hf : f < 128) (ha : f % 2 ^ k = 0) : f + 2 ^ k ≤ 128 := by
  rcases (show k = 0 ∨ k = 1 ∨ k = 2 ∨ k = 3 ∨ k = 4 ∨ k = 5 ∨ k = 6 ∨ k = 7 by omega) with rfl | rfl | rfl | rfl | rfl | rfl | rfl | rfl <;> simp only [Nat.reducePow] at * <;> omega
theorem isFrame_t {f : Nat} {σ : KS} (h : f < 128) : m_X2_isFrame (nI f) σ = some (1, σ) := by
  unfold m_X2_isFrame
  rw [q0, q128, if_neg (nI_nlt (by omega) (by omega)), if_neg (nI_ge (by omega) (by omega))]
theorem isOrder_t {k : Nat} {σ : KS} (h : k < 8) : m_X2_isOrder (nI k) σ = some (1, σ) := by
  unfold m_X2_isOrder
  rw [q0, q7, if_neg (nI_nlt (by omega) (by omega)), if_neg (nI_nlt (by omega) (by omega))]
/-- the class's blocks: rows 4 and 5 tell the free set Z -/
def cB (σ : KS) (Z : Nat → Prop) : Prop := can (σ.1 4) Z ∧ (∀ k, k < 8 → σ.1 5 k = nI (cn (fun g => σ.1 4 g = nI k) 128)) ∧ sm (σ.1 4) 128 = cn Z 128
theorem cB.same {σ τ : KS} {Z : Nat → Prop} (h : cB σ Z) (h4 : τ.1 4 = σ.1 4) (h5 : τ.1 5 = σ.1 5) : cB τ Z := by
  unfold cB at *; rw [h4, h5]; exact h
theorem cB_out {σ : KS} {Z : Nat → Prop} {k f : Nat} (hc : cB σ Z) (hk : k < 8) (hf : f < 128) (ha : f % 2 ^ k = 0) (hm : mx Z k f) : ∃ σ', m_X0_leaveOut (nI f) (nI k) σ = some (0, σ') ∧ sam [4, 5] σ σ' ∧ cB σ' (zm Z k f) := by
  have hO : σ.1 4 f = nI k := (hc.1.1 f k hf hk).mpr ⟨ha, hm⟩
  have e4 : ∀ y, (wr (wr σ 4 (nI f) (-1)) 5 (nI k) y).1 4 = upd (σ.1 4) f (-1) := fun y => by rw [wr_ne (by decide), wr_at (by omega)]
  refine ⟨wr (wr σ 4 (nI f) (-1)) 5 (nI k) ((rd (wr σ 4 (nI f) (-1)) 5 (nI k)) - 1), ?_, (sam.wr (by decide)).trans (sam.wr (by decide)), ?_, ?_, ?_⟩
  · unfold m_X0_leaveOut
    rw [bnd_eq (isFrame_t hf), if_neg (by decide), bnd_eq (isOrder_t hk), if_neg (by decide), chk_nI hf (by decide), chk_nI hk (by decide), chk_nI hk (by decide)]
  · rw [e4]; exact can_out hk hf ha hc.1 hm
  · intro j hj
    rw [e4, wr_at (by omega)]
    by_cases e : j = k
    · subst e
      rw [upd_eq, rd_nI (by omega), wr_ne (by decide), hc.2.1 j hj]
      have := cn_one (P := fun g => upd (σ.1 4) f (-1) g = nI j) (Q := fun g => σ.1 4 g = nI j) (f := f) (n := 128) hf (by rw [upd_eq]; exact m1_nI (by omega)) hO (fun i hi he => by rw [upd_ne he])
      rw [this]
      exact nI_pred _
    · rw [upd_ne e, wr_ne (by decide), hc.2.1 j hj]
      refine congrArg nI (cn_congr fun i hi => ?_)
      by_cases ei : i = f
      · subst ei
        rw [upd_eq, hO, nI_eq (by omega) (by omega)]
        exact ⟨fun q => absurd q.symm e, fun q => absurd q (m1_nI (by omega))⟩
      · rw [upd_ne ei]
  · rw [e4]
    have h1 := sm_upd (O := σ.1 4) (f := f) (v := -1) (n := 128) hf
    rw [hO, sz_nI (by omega), sz_m1, hc.2.2, cn_zm (al_le hk hf ha) ha hm.1] at h1
    omega
theorem cB_in {σ : KS} {Z : Nat → Prop} {k f : Nat} (hc : cB σ (zm Z k f)) (hk : k < 8) (hf : f < 128) (ha : f % 2 ^ k = 0) (hm : mx Z k f) : ∃ σ', m_X0_putIn (nI f) (nI k) σ = some (0, σ') ∧ sam [4, 5] σ σ' ∧ cB σ' Z := by
  have hO : σ.1 4 f = -1 := can_none hc.1 hf sb.rfl'
  have e4 : ∀ y, (wr (wr σ 4 (nI f) (nI k)) 5 (nI k) y).1 4 = upd (σ.1 4) f (nI k) := fun y => by rw [wr_ne (by decide), wr_at (by omega)]
  refine ⟨wr (wr σ 4 (nI f) (nI k)) 5 (nI k) ((rd (wr σ 4 (nI f) (nI k)) 5 (nI k)) + 1), ?_, (sam.wr (by decide)).trans (sam.wr (by decide)), ?_, ?_, ?_⟩
  · unfold m_X0_putIn
    rw [bnd_eq (isFrame_t hf), if_neg (by decide), bnd_eq (isOrder_t hk), if_neg (by decide), chk_nI hf (by decide), chk_nI hk (by decide), chk_nI hk (by decide)]
  · rw [e4]; exact can_in hk hf ha hc.1 hm
  · intro j hj
    rw [e4, wr_at (by omega)]
    by_cases e : j = k
    · subst e
      rw [upd_eq, rd_nI (by omega), wr_ne (by decide), hc.2.1 j hj]
      have := cn_one (Q := fun g => upd (σ.1 4) f (nI j) g = nI j) (P := fun g => σ.1 4 g = nI j) (f := f) (n := 128) hf (by rw [hO]; exact m1_nI (by omega)) (by rw [upd_eq]) (fun i hi he => by rw [upd_ne he])
      rw [this]
      exact nI_1 _
    · rw [upd_ne e, wr_ne (by decide), hc.2.1 j hj]
      refine congrArg nI (cn_congr fun i hi => ?_)
      by_cases ei : i = f
      · subst ei
        rw [upd_eq, hO, nI_eq (by omega) (by omega)]
        exact ⟨fun q => absurd q (m1_nI (by omega)), fun q => absurd q.symm e⟩
      · rw [upd_ne ei]
  · rw [e4]
    have h1 := sm_upd (O := σ.1 4) (f := f) (v := nI k) (n := 128) hf
    rw [hO, sz_nI (by omega), sz_m1, hc.2.2] at h1
    rw [cn_zm (al_le hk hf ha) ha hm.1]
    omega
theorem sh1 : ∀ k, k < 8 → (1 : Int32) <<< (nI k &&& 31) = nI (2 ^ k) := by decide +kernel
theorem countOf_t {k : Nat} {σ : KS} (h : k < 8) : m_X0_countOf (nI k) σ = some (σ.1 5 k, σ) := by
  unfold m_X0_countOf
  rw [bnd_eq (isOrder_t h), if_neg (by decide), chk_nI h (by decide), rd_nI (by omega)]
theorem leastOf_l {σ : KS} {k : Nat} (hk : k < 8) : ∀ (n x : Nat), x % 2 ^ k = 0 → x ≤ 128 → 128 < n + x →
    (∃ f, x ≤ f ∧ f < 128 ∧ f % 2 ^ k = 0 ∧ σ.1 4 f = nI k ∧ (∀ g, x ≤ g → g < f → g % 2 ^ k = 0 → ¬ σ.1 4 g = nI k) ∧ f_X0_leastOf_20 n (nI k) (nI x) σ = some (nI f, σ)) ∨
    ((∀ g, x ≤ g → g < 128 → g % 2 ^ k = 0 → ¬ σ.1 4 g = nI k) ∧ f_X0_leastOf_20 n (nI k) (nI x) σ = some (-1, σ)) := by
  have hp := pw8 hk
  intro n
  induction n with
  | zero => intro x _ h1 h2; omega
  | succ n ih =>
    intro x hx h1 h2
    rw [f_X0_leastOf_20]
    by_cases e : x = 128
    · subst e
      right
      refine ⟨fun g a b => by omega, ?_⟩
      rw [q128, if_pos (nI_le (by omega) (by omega))]
    · have hx1 : x < 128 := by omega
      rw [q128, if_neg (nI_ge hx1 (by omega)), chk_nI hx1 (by decide), rd_nI (by omega)]
      by_cases hO : σ.1 4 x = nI k
      · left
        exact ⟨x, Nat.le_refl _, hx1, hx, hO, fun g a b => by omega, by rw [if_pos hO]⟩
      · rw [if_neg hO, sh1 k hk, nI_add]
        have hle := al_le hk hx1 hx
        have hstep : ∀ g, x ≤ g → g < x + 2 ^ k → g % 2 ^ k = 0 → g = x := fun g a b c => by
          have := (sb_iff hx).mpr ⟨a, b⟩
          exact sb_al c hx this
        rcases ih (x + 2 ^ k) (by rw [Nat.add_mod_right]; exact hx) hle (by omega) with ⟨f, a, b, c, d, g0, r⟩ | ⟨g0, r⟩
        · left
          refine ⟨f, by omega, b, c, d, fun g a1 b1 c1 => ?_, r⟩
          rcases Nat.lt_or_ge g (x + 2 ^ k) with q | q
          · rw [hstep g a1 q c1]; exact hO
          · exact g0 g q b1 c1
        · right
          refine ⟨fun g a1 b1 c1 => ?_, r⟩
          rcases Nat.lt_or_ge g (x + 2 ^ k) with q | q
          · rw [hstep g a1 q c1]; exact hO
          · exact g0 g q b1 c1
theorem cn_pos {P : Nat → Prop} {f n : Nat} (hf : f < n) (h : P f) : 0 < cn P n := by
  have := cn_one (P := fun i => P i ∧ i ≠ f) (Q := P) (f := f) (n := n) hf (fun q => q.2 rfl) h (fun i _ he => ⟨fun q => q.1, fun q => ⟨q, he⟩⟩)
  omega
theorem leastOf_t {σ : KS} {Z : Nat → Prop} {k : Nat} (hc : cB σ Z) (hk : k < 8) :
    (∃ f, f < 128 ∧ f % 2 ^ k = 0 ∧ mx Z k f ∧ (∀ g, g < f → g % 2 ^ k = 0 → ¬ mx Z k g) ∧ m_X0_leastOf (nI k) σ = some (nI f, σ)) ∨
    ((∀ g, g < 128 → g % 2 ^ k = 0 → ¬ mx Z k g) ∧ m_X0_leastOf (nI k) σ = some (-1, σ)) := by
  unfold m_X0_leastOf
  rw [bnd_eq (isOrder_t hk), if_neg (by decide), chk_nI hk (by decide), rd_nI (by omega), hc.2.1 k hk]
  have hb := cn_le (P := fun g => σ.1 4 g = nI k) (n := 128)
  by_cases h0 : cn (fun g => σ.1 4 g = nI k) 128 = 0
  · right
    rw [h0, if_pos (show nI 0 = 0 from rfl)]
    refine ⟨fun g hg hm hx => ?_, rfl⟩
    have := cn_pos (P := fun g => σ.1 4 g = nI k) hg ((hc.1.1 g k hg hk).mpr ⟨hm, hx⟩)
    omega
  · rw [q0, if_neg (fun q => h0 ((nI_eq (by omega) (by omega)).mp q))]
    rcases leastOf_l (σ := σ) hk FU 0 (Nat.zero_mod _) (by omega) (by decide) with ⟨f, a, b, c, d, g0, r⟩ | ⟨g0, r⟩
    · left
      exact ⟨f, b, c, ((hc.1.1 f k b hk).mp d).2, fun g hg hm hx => g0 g (Nat.zero_le _) hg hm ((hc.1.1 g k (by omega) hk).mpr ⟨hm, hx⟩), r⟩
    · right
      exact ⟨fun g hg hm hx => g0 g (Nat.zero_le _) hg hm ((hc.1.1 g k hg hk).mpr ⟨hm, hx⟩), r⟩
