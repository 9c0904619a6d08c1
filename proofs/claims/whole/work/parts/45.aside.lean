/-! PURE: what is laid aside, and brought back -/
theorem us01 {σ ρ : KS} (h : rB σ ρ) {p : Nat} (hp : p < 512) : ρ.1 3 p = 0 ∨ ρ.1 3 p = 1 := by
  obtain ⟨-, -, hP1, hP2, hO⟩ := h
  have hf : p / 4 < 128 := by omega
  have hi : p % 4 < 4 := by omega
  have e : 4 * (p / 4) + p % 4 = p := by omega
  obtain ⟨a, a1, a2, a3, a4⟩ := hP1 (p / 4) hf
  obtain ⟨b, b1, b2, b3, b4⟩ := hP2 (p / 4) hf
  have fin : ∀ c : Nat, (ρ.1 3 (4 * (p / 4) + p % 4) = nI (c / 2 ^ (p % 4) % 2)) → ρ.1 3 p = 0 ∨ ρ.1 3 p = 1 := by
    intro c hc
    rw [e] at hc
    rw [hc]
    rcases (show c / 2 ^ (p % 4) % 2 = 0 ∨ c / 2 ^ (p % 4) % 2 = 1 by omega) with q | q
    · left; rw [q]; rfl
    · right; rw [q]; rfl
  by_cases h1 : ρ.1 2 (p / 4) = nI 1
  · exact fin a (a4 (a3.mp h1) _ hi)
  · by_cases h2 : ρ.1 2 (p / 4) = nI 2
    · exact fin b (b4 (b3.mp h2) _ hi)
    · left; have := hO (p / 4) hf h1 h2 _ hi; rw [e] at this; exact this
theorem fr01 {F : Nat → Int32} {Z : Nat → Prop} (h : canR F Z) {i : Nat} (hi : i < 1024) : F i = 0 ∨ F i = 1 := by
  have := (h (i % 128) (i / 128) (by omega) (by omega)).1
  rw [show 128 * (i / 128) + i % 128 = i by omega] at this
  exact this
theorem zchk_t {x : Int32} {k : KR} (h : x = 0 ∨ x = 1) : zchk x k = k := by unfold zchk; rw [if_pos h]
theorem lay_3 {ρ : KS} (h01 : ∀ i, i < 512 → ρ.1 3 i = 0 ∨ ρ.1 3 i = 1) : ∀ (n i : Nat) (g : Nat → Int32), i ≤ 512 → 512 < n + i → (∀ j, j < i → g j = ρ.1 3 j) → ∃ g', (∀ j, j < 512 → g' j = ρ.1 3 j) ∧ f_X3_layAside_56 n (nI i) (setA ρ 16 g) = some (0, (setA ρ 16 g')) := by
  intro n
  induction n with
  | zero => intro i g a b; omega
  | succ n ih =>
    intro i g a b hg
    rw [f_X3_layAside_56]
    by_cases e : i = 512
    · subst e
      exact ⟨g, hg, by rw [if_pos (show (512 : Int32) ≤ nI 512 from nI_le (a := 512) (by omega) (by omega))]⟩
    · rw [if_neg (show ¬ (512 : Int32) ≤ nI i from nI_ge (b := 512) (by omega) (by omega)), chk_nI (by omega) (by decide), chk_nI (by omega) (by decide), rd_nI (by omega), setA_ne (by decide), zchk_t (h01 i (by omega)), setA_wr (by omega), show nI i + 1 = nI (i + 1) from nI_1 i]
      exact ih (i + 1) _ (by omega) (by omega) (fun j hj => by
        by_cases ej : j = i
        · subst ej; rw [upd_eq]
        · rw [upd_ne ej]; exact hg j (by omega))
theorem lay_2 {ρ : KS} : ∀ (n i : Nat) (g : Nat → Int32), i ≤ 128 → 128 < n + i → (∀ j, j < i → g j = ρ.1 2 j) → ∃ g', (∀ j, j < 128 → g' j = ρ.1 2 j) ∧ f_X3_layAside_29 n (nI i) (setA ρ 15 g) = f_X3_layAside_56 FU 0 (setA ρ 15 g') := by
  intro n
  induction n with
  | zero => intro i g a b; omega
  | succ n ih =>
    intro i g a b hg
    rw [f_X3_layAside_29]
    by_cases e : i = 128
    · subst e
      exact ⟨g, hg, by rw [if_pos (show (128 : Int32) ≤ nI 128 from nI_le (a := 128) (by omega) (by omega))]⟩
    · rw [if_neg (show ¬ (128 : Int32) ≤ nI i from nI_ge (b := 128) (by omega) (by omega)), chk_nI (by omega) (by decide), chk_nI (by omega) (by decide), rd_nI (by omega), setA_ne (by decide), setA_wr (by omega), show nI i + 1 = nI (i + 1) from nI_1 i]
      exact ih (i + 1) _ (by omega) (by omega) (fun j hj => by
        by_cases ej : j = i
        · subst ej; rw [upd_eq]
        · rw [upd_ne ej]; exact hg j (by omega))
theorem lay_1 {ρ : KS} (h01 : ∀ i, i < 1024 → ρ.1 1 i = 0 ∨ ρ.1 1 i = 1) : ∀ (n i : Nat) (g : Nat → Int32), i ≤ 1024 → 1024 < n + i → (∀ j, j < i → g j = ρ.1 1 j) → ∃ g', (∀ j, j < 1024 → g' j = ρ.1 1 j) ∧ f_X3_layAside_2 n (nI i) (setA ρ 14 g) = f_X3_layAside_29 FU 0 (setA ρ 14 g') := by
  intro n
  induction n with
  | zero => intro i g a b; omega
  | succ n ih =>
    intro i g a b hg
    rw [f_X3_layAside_2]
    by_cases e : i = 1024
    · subst e
      exact ⟨g, hg, by rw [if_pos (show (1024 : Int32) ≤ nI 1024 from nI_le (a := 1024) (by omega) (by omega))]⟩
    · rw [if_neg (show ¬ (1024 : Int32) ≤ nI i from nI_ge (b := 1024) (by omega) (by omega)), chk_nI (by omega) (by decide), chk_nI (by omega) (by decide), rd_nI (by omega), setA_ne (by decide), zchk_t (h01 i (by omega)), setA_wr (by omega), show nI i + 1 = nI (i + 1) from nI_1 i]
      exact ih (i + 1) _ (by omega) (by omega) (fun j hj => by
        by_cases ej : j = i
        · subst ej; rw [upd_eq]
        · rw [upd_ne ej]; exact hg j (by omega))
theorem fail_3 {ρ : KS} (h01 : ∀ i, i < 512 → ρ.1 16 i = 0 ∨ ρ.1 16 i = 1) : ∀ (n i : Nat) (g : Nat → Int32), i ≤ 512 → 512 < n + i → (∀ j, j < i → g j = ρ.1 16 j) → ∃ g', (∀ j, j < 512 → g' j = ρ.1 16 j) ∧ f_X3_fail_56 n (nI i) (setA ρ 3 g) = some ((-3), (sv (setA ρ 3 g') 2 ((gv (setA ρ 3 g') 2) + 1))) := by
  intro n
  induction n with
  | zero => intro i g a b; omega
  | succ n ih =>
    intro i g a b hg
    rw [f_X3_fail_56]
    by_cases e : i = 512
    · subst e
      exact ⟨g, hg, by rw [if_pos (show (512 : Int32) ≤ nI 512 from nI_le (a := 512) (by omega) (by omega))]⟩
    · rw [if_neg (show ¬ (512 : Int32) ≤ nI i from nI_ge (b := 512) (by omega) (by omega)), chk_nI (by omega) (by decide), chk_nI (by omega) (by decide), rd_nI (by omega), setA_ne (by decide), zchk_t (h01 i (by omega)), setA_wr (by omega), show nI i + 1 = nI (i + 1) from nI_1 i]
      exact ih (i + 1) _ (by omega) (by omega) (fun j hj => by
        by_cases ej : j = i
        · subst ej; rw [upd_eq]
        · rw [upd_ne ej]; exact hg j (by omega))
theorem fail_2 {ρ : KS} : ∀ (n i : Nat) (g : Nat → Int32), i ≤ 128 → 128 < n + i → (∀ j, j < i → g j = ρ.1 15 j) → ∃ g', (∀ j, j < 128 → g' j = ρ.1 15 j) ∧ f_X3_fail_29 n (nI i) (setA ρ 2 g) = f_X3_fail_56 FU 0 (setA ρ 2 g') := by
  intro n
  induction n with
  | zero => intro i g a b; omega
  | succ n ih =>
    intro i g a b hg
    rw [f_X3_fail_29]
    by_cases e : i = 128
    · subst e
      exact ⟨g, hg, by rw [if_pos (show (128 : Int32) ≤ nI 128 from nI_le (a := 128) (by omega) (by omega))]⟩
    · rw [if_neg (show ¬ (128 : Int32) ≤ nI i from nI_ge (b := 128) (by omega) (by omega)), chk_nI (by omega) (by decide), chk_nI (by omega) (by decide), rd_nI (by omega), setA_ne (by decide), setA_wr (by omega), show nI i + 1 = nI (i + 1) from nI_1 i]
      exact ih (i + 1) _ (by omega) (by omega) (fun j hj => by
        by_cases ej : j = i
        · subst ej; rw [upd_eq]
        · rw [upd_ne ej]; exact hg j (by omega))
theorem fail_1 {ρ : KS} (h01 : ∀ i, i < 1024 → ρ.1 14 i = 0 ∨ ρ.1 14 i = 1) : ∀ (n i : Nat) (g : Nat → Int32), i ≤ 1024 → 1024 < n + i → (∀ j, j < i → g j = ρ.1 14 j) → ∃ g', (∀ j, j < 1024 → g' j = ρ.1 14 j) ∧ f_X3_fail_2 n (nI i) (setA ρ 1 g) = f_X3_fail_29 FU 0 (setA ρ 1 g') := by
  intro n
  induction n with
  | zero => intro i g a b; omega
  | succ n ih =>
    intro i g a b hg
    rw [f_X3_fail_2]
    by_cases e : i = 1024
    · subst e
      exact ⟨g, hg, by rw [if_pos (show (1024 : Int32) ≤ nI 1024 from nI_le (a := 1024) (by omega) (by omega))]⟩
    · rw [if_neg (show ¬ (1024 : Int32) ≤ nI i from nI_ge (b := 1024) (by omega) (by omega)), chk_nI (by omega) (by decide), chk_nI (by omega) (by decide), rd_nI (by omega), setA_ne (by decide), zchk_t (h01 i (by omega)), setA_wr (by omega), show nI i + 1 = nI (i + 1) from nI_1 i]
      exact ih (i + 1) _ (by omega) (by omega) (fun j hj => by
        by_cases ej : j = i
        · subst ej; rw [upd_eq]
        · rw [upd_ne ej]; exact hg j (by omega))
theorem layAside_t {ρ : KS} (h1 : ∀ i, i < 1024 → ρ.1 1 i = 0 ∨ ρ.1 1 i = 1) (h3 : ∀ i, i < 512 → ρ.1 3 i = 0 ∨ ρ.1 3 i = 1) :
    ∃ ρ', m_X3_layAside ρ = some (0, ρ') ∧ sam [14, 15, 16] ρ ρ' ∧ (∀ i, i < 1024 → ρ'.1 14 i = ρ.1 1 i) ∧ (∀ i, i < 128 → ρ'.1 15 i = ρ.1 2 i) ∧ (∀ i, i < 512 → ρ'.1 16 i = ρ.1 3 i) := by
  obtain ⟨g1, a1, r1⟩ := lay_1 (ρ := ρ) h1 FU 0 (ρ.1 14) (by omega) (by decide) (fun j hj => by omega)
  rw [setA_self] at r1
  obtain ⟨ρ1, hρ1⟩ : ∃ z, z = setA ρ 14 g1 := ⟨_, rfl⟩
  rw [← hρ1] at r1
  have e1 : ∀ k, k ≠ 14 → ρ1.1 k = ρ.1 k := fun k hk => by rw [hρ1, setA_ne hk]
  obtain ⟨g2, a2, r2⟩ := lay_2 (ρ := ρ1) FU 0 (ρ1.1 15) (by omega) (by decide) (fun j hj => by omega)
  rw [setA_self] at r2
  obtain ⟨ρ2, hρ2⟩ : ∃ z, z = setA ρ1 15 g2 := ⟨_, rfl⟩
  rw [← hρ2] at r2
  have e2 : ∀ k, k ≠ 15 → ρ2.1 k = ρ1.1 k := fun k hk => by rw [hρ2, setA_ne hk]
  obtain ⟨g3, a3, r3⟩ := lay_3 (ρ := ρ2) (by rw [e2 3 (by decide), e1 3 (by decide)]; exact h3) FU 0 (ρ2.1 16) (by omega) (by decide) (fun j hj => by omega)
  rw [setA_self] at r3
  refine ⟨setA ρ2 16 g3, ?_, ⟨?_, ?_⟩, ?_, ?_, ?_⟩
  · show f_X3_layAside_2 FU (nI 0) ρ = _
    rw [r1]
    show f_X3_layAside_29 FU (nI 0) ρ1 = _
    rw [r2]
    exact r3
  · rw [setA_2, hρ2, setA_2, hρ1, setA_2]
  · intro k hk
    have k1 : k ≠ 14 := fun q => hk (by rw [q]; decide)
    have k2 : k ≠ 15 := fun q => hk (by rw [q]; decide)
    have k3 : k ≠ 16 := fun q => hk (by rw [q]; decide)
    rw [setA_ne k3, e2 k k2, e1 k k1]
  · intro i hi
    rw [setA_ne (by decide), e2 14 (by decide), hρ1, setA_at]; exact a1 i hi
  · intro i hi
    rw [setA_ne (by decide), hρ2, setA_at, a2 i hi, e1 2 (by decide)]
  · intro i hi
    rw [setA_at, a3 i hi, e2 3 (by decide), e1 3 (by decide)]
theorem fail_t {ρ : KS} (h1 : ∀ i, i < 1024 → ρ.1 14 i = 0 ∨ ρ.1 14 i = 1) (h3 : ∀ i, i < 512 → ρ.1 16 i = 0 ∨ ρ.1 16 i = 1) :
    ∃ ρ', m_X3_fail ρ = some (-3, sv ρ' 2 (ρ.2 2 + 1)) ∧ sam [1, 2, 3] ρ ρ' ∧ (∀ i, i < 1024 → ρ'.1 1 i = ρ.1 14 i) ∧ (∀ i, i < 128 → ρ'.1 2 i = ρ.1 15 i) ∧ (∀ i, i < 512 → ρ'.1 3 i = ρ.1 16 i) := by
  obtain ⟨g1, a1, r1⟩ := fail_1 (ρ := ρ) h1 FU 0 (ρ.1 1) (by omega) (by decide) (fun j hj => by omega)
  rw [setA_self] at r1
  obtain ⟨ρ1, hρ1⟩ : ∃ z, z = setA ρ 1 g1 := ⟨_, rfl⟩
  rw [← hρ1] at r1
  have e1 : ∀ k, k ≠ 1 → ρ1.1 k = ρ.1 k := fun k hk => by rw [hρ1, setA_ne hk]
  obtain ⟨g2, a2, r2⟩ := fail_2 (ρ := ρ1) FU 0 (ρ1.1 2) (by omega) (by decide) (fun j hj => by omega)
  rw [setA_self] at r2
  obtain ⟨ρ2, hρ2⟩ : ∃ z, z = setA ρ1 2 g2 := ⟨_, rfl⟩
  rw [← hρ2] at r2
  have e2 : ∀ k, k ≠ 2 → ρ2.1 k = ρ1.1 k := fun k hk => by rw [hρ2, setA_ne hk]
  obtain ⟨g3, a3, r3⟩ := fail_3 (ρ := ρ2) (by rw [e2 16 (by decide), e1 16 (by decide)]; exact h3) FU 0 (ρ2.1 3) (by omega) (by decide) (fun j hj => by omega)
  rw [setA_self] at r3
  have es : (setA ρ2 3 g3).2 = ρ.2 := by rw [setA_2, hρ2, setA_2, hρ1, setA_2]
  refine ⟨setA ρ2 3 g3, ?_, ⟨es, ?_⟩, ?_, ?_, ?_⟩
  · show f_X3_fail_2 FU (nI 0) ρ = _
    rw [r1]
    show f_X3_fail_29 FU (nI 0) ρ1 = _
    rw [r2]
    show f_X3_fail_56 FU (nI 0) ρ2 = _
    rw [r3]
    unfold gv
    rw [es]
  · intro k hk
    have k1 : k ≠ 1 := fun q => hk (by rw [q]; decide)
    have k2 : k ≠ 2 := fun q => hk (by rw [q]; decide)
    have k3 : k ≠ 3 := fun q => hk (by rw [q]; decide)
    rw [setA_ne k3, e2 k k2, e1 k k1]
  · intro i hi
    rw [setA_ne (by decide), e2 1 (by decide), hρ1, setA_at]; exact a1 i hi
  · intro i hi
    rw [setA_ne (by decide), hρ2, setA_at, a2 i hi, e1 15 (by decide)]
  · intro i hi
    rw [setA_at, a3 i hi, e2 16 (by decide), e1 16 (by decide)]
/-- where two states of the reference agree in all that Rel speaks of -/
def swp (τ ρ : KS) : Prop := (∀ i, i < 128 → ρ.1 2 i = τ.1 2 i) ∧ (∀ i, i < 512 → ρ.1 3 i = τ.1 3 i) ∧ (∀ p, p < 16 → ρ.1 6 p = τ.1 6 p ∧ ρ.1 7 p = τ.1 7 p ∧ (¬ τ.1 6 p = 0 → ρ.1 8 p = τ.1 8 p ∧ ρ.1 10 p = τ.1 10 p) ∧ ρ.1 9 p = τ.1 9 p) ∧
  (∀ p t, p < 16 → 16 * t < bk τ p → ρ.1 12 (16 * p + t) = τ.1 12 (16 * p + t)) ∧ (∀ p k, p < 16 → k < bk τ p → ρ.1 11 (256 * p + k) = τ.1 11 (256 * p + k)) ∧
  (∀ f w, f < 128 → w < 64 → τ.1 2 f = nI 3 → ρ.1 4 (64 * f + w) = τ.1 4 (64 * f + w)) ∧ (∀ f, f < 128 → ρ.1 5 f = τ.1 5 f) ∧ (∀ i, i < 16 → ρ.1 13 i = τ.1 13 i) ∧ ρ.2 0 = τ.2 0
theorem sb_128 {k i f : Nat} (hk : k < 8) (hf : f < 128) (h : sb k i f) : i < 128 := by
  have h7 : sb 7 i f := h.mono (by omega)
  unfold sb at h7
  simp only [Nat.reducePow] at h7
  omega
theorem Rel.swap {σ τ ρ : KS} (h : Rel σ τ) (hs : swp τ ρ) (hc : canR (ρ.1 1) (zs τ)) (hS : rS σ ρ) : Rel σ ρ := by
  obtain ⟨⟨hB, -, hP1, hP2, hO⟩, hD, hK, hP, hQ, hT, hG, hR, -⟩ := h
  obtain ⟨s2, s3, sp, s12, s11, s4, s5, s13, s0⟩ := hs
  have ez : zs ρ = zs τ := by
    funext i
    refine propext ?_
    unfold zs
    exact ⟨fun q => ⟨q.1, by rw [← s2 i q.1]; exact q.2⟩, fun q => ⟨q.1, by rw [s2 i q.1]; exact q.2⟩⟩
  have ebk : ∀ p, p < 16 → bk ρ p = bk τ p := fun p hp => by unfold bk; rw [(sp p hp).2.1]
  have erc : ∀ p, p < 16 → ¬ τ.1 6 p = 0 → rcN ρ p = rcN τ p := fun p hp hn => by unfold rcN; rw [((sp p hp).2.2.1 hn).2]
  have etb : ∀ p t, p < 16 → 16 * t < bk τ p → tbN ρ p t = tbN τ p t := fun p t hp ht => by unfold tbN; rw [s12 p t hp ht]
  have epg : ∀ p k, p < 16 → k < bk τ p → pgN ρ p k = pgN τ p k := fun p k hp hk => by unfold pgN; rw [s11 p k hp hk]
  have eu : ∀ f, usr ρ f = usr τ f := fun f => by
    unfold usr
    refine sN_congr fun p hp => ?_
    rw [ebk p hp]
    exact cn_congr fun k hk => by rw [epg p k hp hk]
  have hpS : ∀ s u, pS s u σ τ → pS s u σ ρ := by
    intro s u hh f hf
    obtain ⟨a, a1, a2, a3, a4⟩ := hh f hf
    exact ⟨a, a1, a2, by rw [s2 f hf]; exact a3, fun w i hi => by rw [s3 _ (by omega)]; exact a4 w i hi⟩
  have hne0 : ∀ p, p < 16 → 0 < bk τ p → ¬ τ.1 6 p = 0 := fun p hp hb q => by
    have := (hP p hp).2.2.2.2.2.1 (by rw [q]; decide)
    omega
  refine ⟨⟨by rw [ez]; exact hB, by rw [ez]; exact hc, hpS 1 6 hP1, hpS 2 7 hP2, ?_⟩, ?_, ⟨?_, ?_, ?_, ?_⟩, ?_, ⟨?_, ?_⟩, ⟨?_, ?_⟩, ⟨?_, ?_, ?_⟩, ?_, hS⟩
  · intro f hf n1 n2 i hi
    rw [s2 f hf] at n1 n2
    rw [s3 _ (by omega)]
    exact hO f hf n1 n2 i hi
  · intro f hf
    rw [s2 f hf]; exact hD f hf
  · intro f hf; rw [s5 f hf]; exact hK.1 f hf
  · intro f hf; rw [s5 f hf]; exact hK.2.1 f hf
  · intro i hi
    rw [s2 i hi, hK.2.2.1 i hi]
    constructor
    · intro ⟨k, f, k1, f1, f2, f3, f4⟩; exact ⟨k, f, k1, f1, f2, f3, by rw [s5 f f1]; exact f4⟩
    · intro ⟨k, f, k1, f1, f2, f3, f4⟩; exact ⟨k, f, k1, f1, f2, f3, by rw [← s5 f f1]; exact f4⟩
  · intro f g k j i f1 g1 k1 j1 fa ga e1 e2 b1 b2
    rw [s5 f f1] at e1
    rw [s5 g g1] at e2
    exact hK.2.2.2 f g k j i f1 g1 k1 j1 fa ga e1 e2 b1 b2
  · intro p hp
    obtain ⟨p1, p2, p3, p4, p5, p6, p7, p8⟩ := hP p hp
    obtain ⟨q1, q2, q3, q4⟩ := sp p hp
    rw [q1, q2, ebk p hp, q4]
    refine ⟨p1, p2, p3, p4, p5, p6, ?_, p8⟩
    rw [p7]
    by_cases e : τ.1 6 p = 0
    · rw [if_pos e, if_pos e]
    · rw [if_neg e, if_neg e, (q3 e).1]
  · intro p hp hn
    rw [(sp p hp).1] at hn
    obtain ⟨a1, a2, a3, a4, a5⟩ := hQ.1 p hp hn
    rw [erc p hp hn, ((sp p hp).2.2.1 hn).2, s3 _ a1, s2 _ (by omega)]
    exact ⟨a1, a2, a3, a4, a5⟩
  · intro p q hp hq hn hm e
    rw [(sp p hp).1] at hn
    rw [(sp q hq).1] at hm
    rw [erc p hp hn, erc q hq hm] at e
    exact hQ.2 p q hp hq hn hm e
  · intro p t hp ht
    rw [ebk p hp] at ht
    obtain ⟨a1, a2, a3, a4, a5⟩ := hT.1 p t hp ht
    rw [etb p t hp ht, s12 p t hp ht, s3 _ a1, s2 _ (by omega), erc p hp (hne0 p hp (by omega))]
    exact ⟨a1, a2, a3, a4, a5⟩
  · intro p t q u hp hq ht hu e
    rw [ebk p hp] at ht
    rw [ebk q hq] at hu
    rw [etb p t hp ht, etb q u hq hu] at e
    exact hT.2 p t q u hp hq ht hu e
  · intro p k hp hk
    rw [ebk p hp] at hk
    obtain ⟨a1, a2, a3⟩ := hG.1 p k hp hk
    rw [epg p k hp hk, s11 p k hp hk, etb p (k / 16) hp (by omega)]
    exact ⟨a1, a2, a3⟩
  · intro f hf
    rw [eu f, s2 f hf]
    exact hG.2.1 f hf
  · intro f w hf hw h3
    rw [s2 f hf] at h3
    rw [s4 f w hf hw h3]
    exact hG.2.2 f w hf hw h3
  · obtain ⟨n, n1, n2, n3, n4, n5, n6⟩ := hR
    refine ⟨n, n1, n2, by rw [s0]; exact n3, fun i hi => ?_, fun i j hi hj => ?_, fun p hp hl => ?_⟩
    · rw [s13 i (by omega)]
      obtain ⟨a, p, b1, b2, b3⟩ := n4 i hi
      exact ⟨a, p, b1, b2, by rw [(sp p b1).1]; exact b3⟩
    · rw [s13 i (by omega), s13 j (by omega)]; exact n5 i j hi hj
    · rw [(sp p hp).1] at hl
      obtain ⟨i, i1, i2⟩ := n6 p hp hl
      exact ⟨i, i1, by rw [s13 i (by omega)]; exact i2⟩
