/-! PURE: the relation between the class's state σ and the reference's state ρ -/
def bk (ρ : KS) (p : Nat) : Nat := (ρ.1 7 p).toNatClampNeg
def rcN (ρ : KS) (p : Nat) : Nat := (ρ.1 10 p).toNatClampNeg
def tbN (ρ : KS) (p t : Nat) : Nat := (ρ.1 12 (16 * p + t)).toNatClampNeg
def pgN (ρ : KS) (p k : Nat) : Nat := (ρ.1 11 (256 * p + k)).toNatClampNeg
def sN (g : Nat → Nat) : Nat → Nat
  | 0 => 0
  | n + 1 => sN g n + g n
/-- how many pages have the frame f -/
noncomputable def usr (ρ : KS) (f : Nat) : Nat := sN (fun p => cn (fun k => pgN ρ p k = f) (bk ρ p)) 16
def rD (ρ : KS) : Prop := ∀ f, f < 128 → ∃ v, v < 5 ∧ ρ.1 2 f = nI v
def rK (σ ρ : KS) : Prop := (∀ f, f < 128 → σ.1 10 f = ρ.1 5 f) ∧ (∀ f, f < 128 → ρ.1 5 f = -1 ∨ ∃ k, k < 8 ∧ ρ.1 5 f = nI k ∧ f % 2 ^ k = 0) ∧
  (∀ i, i < 128 → (ρ.1 2 i = nI 4 ↔ ∃ k f, k < 8 ∧ f < 128 ∧ f % 2 ^ k = 0 ∧ sb k i f ∧ ρ.1 5 f = nI k)) ∧
  (∀ f g k j i, f < 128 → g < 128 → k < 8 → j < 8 → f % 2 ^ k = 0 → g % 2 ^ j = 0 → ρ.1 5 f = nI k → ρ.1 5 g = nI j → sb k i f → sb j i g → f = g)
def rP (σ ρ : KS) : Prop := ∀ p, p < 16 → σ.1 11 p = ρ.1 6 p ∧ (ρ.1 6 p = 0 ∨ ρ.1 6 p = 1 ∨ ρ.1 6 p = 2) ∧ σ.1 14 p = ρ.1 7 p ∧ ρ.1 7 p = nI (bk ρ p) ∧ bk ρ p ≤ 256 ∧ (¬ ρ.1 6 p = 1 → bk ρ p = 0) ∧ σ.1 12 p = (if ρ.1 6 p = 0 then -1 else ρ.1 8 p) ∧ σ.1 13 p = ρ.1 9 p
def rQ (σ ρ : KS) : Prop := (∀ p, p < 16 → ¬ ρ.1 6 p = 0 → rcN ρ p < 512 ∧ ρ.1 10 p = nI (rcN ρ p) ∧ σ.1 15 p = nI (rcN ρ p) ∧ ρ.1 3 (rcN ρ p) = 1 ∧ ρ.1 2 (rcN ρ p / 4) = nI 1) ∧
  (∀ p q, p < 16 → q < 16 → ¬ ρ.1 6 p = 0 → ¬ ρ.1 6 q = 0 → rcN ρ p = rcN ρ q → p = q)
def rT (σ ρ : KS) : Prop := (∀ p t, p < 16 → 16 * t < bk ρ p → tbN ρ p t < 512 ∧ ρ.1 12 (16 * p + t) = nI (tbN ρ p t) ∧ ρ.1 3 (tbN ρ p t) = 1 ∧ ρ.1 2 (tbN ρ p t / 4) = nI 2 ∧ σ.1 8 (16 * rcN ρ p + t) = nI (tbN ρ p t)) ∧
  (∀ p t q u, p < 16 → q < 16 → 16 * t < bk ρ p → 16 * u < bk ρ q → tbN ρ p t = tbN ρ q u → p = q ∧ t = u)
def rG (σ ρ : KS) : Prop := (∀ p k, p < 16 → k < bk ρ p → pgN ρ p k < 128 ∧ ρ.1 11 (256 * p + k) = nI (pgN ρ p k) ∧ σ.1 8 (16 * tbN ρ p (k / 16) + k % 16) = nI (pgN ρ p k)) ∧
  (∀ f, f < 128 → σ.1 9 f = nI (usr ρ f) ∧ (ρ.1 2 f = nI 3 ↔ 0 < usr ρ f)) ∧
  (∀ f w, f < 128 → w < 64 → ρ.1 2 f = nI 3 → σ.1 8 (64 * f + w) = ρ.1 4 (64 * f + w))
def rR (σ ρ : KS) : Prop := ∃ n, n ≤ 16 ∧ σ.2 0 = nI n ∧ ρ.2 0 = nI n ∧ (∀ i, i < n → σ.1 16 i = ρ.1 13 i ∧ ∃ p, p < 16 ∧ ρ.1 13 i = nI p ∧ ρ.1 6 p = 1) ∧
  (∀ i j, i < n → j < n → ρ.1 13 i = ρ.1 13 j → i = j) ∧ (∀ p, p < 16 → ρ.1 6 p = 1 → ∃ i, i < n ∧ ρ.1 13 i = nI p)
def rS (σ ρ : KS) : Prop := σ.2 1 = ρ.2 1 ∧ σ.2 2 = ρ.2 2 ∧ σ.2 3 = ρ.2 3
def Rel (σ ρ : KS) : Prop := rB σ ρ ∧ rD ρ ∧ rK σ ρ ∧ rP σ ρ ∧ rQ σ ρ ∧ rT σ ρ ∧ rG σ ρ ∧ rR σ ρ ∧ rS σ ρ
/-! who is live -/
theorem isNumber_t {p : Nat} {σ : KS} (h : p < 16) : m_X2_isNumber (nI p) σ = some (1, σ) := by
  unfold m_X2_isNumber
  rw [q0, q16, if_neg (nI_nlt (by omega) (by omega)), if_neg (nI_ge (by omega) (by omega))]
theorem isNumber_f {x : Int32} {σ : KS} (h : x < 0 ∨ nI 16 ≤ x) : m_X2_isNumber x σ = some (0, σ) := by
  unfold m_X2_isNumber
  rcases h with h | h
  · rw [if_pos h]
  · by_cases h0 : x < 0
    · rw [if_pos h0]
    · rw [if_neg h0, if_pos (show (16 : Int32) ≤ x from h)]
theorem isLiveX_t {p : Nat} {σ : KS} (h : p < 16) (hs : σ.1 11 p = 1) : m_X2_isLive (nI p) σ = some (1, σ) := by
  unfold m_X2_isLive
  rw [bnd_eq (isNumber_t h), if_neg (by decide), chk_nI h (by decide), rd_nI (by omega), if_pos hs]
theorem isLiveX_f {x : Int32} {σ : KS} (h : ∀ p, p < 16 → x = nI p → ¬ σ.1 11 p = 1) : m_X2_isLive x σ = some (0, σ) := by
  unfold m_X2_isLive
  rcases pk_ix x (n := 16) (by decide) with q | q | ⟨p, hp, rfl⟩
  · rw [bnd_eq (isNumber_f (Or.inl q)), if_pos rfl]
  · rw [bnd_eq (isNumber_f (Or.inr q)), if_pos rfl]
  · rw [bnd_eq (isNumber_t hp), if_neg (by decide), chk_nI hp (by decide), rd_nI (by omega), if_neg (h p hp rfl)]
theorem isLiveM_t {p : Nat} {ρ : KS} (h : p < 16) (hs : ρ.1 6 p = 1) : m_X3_isLive (nI p) ρ = some (1, ρ) := by
  unfold m_X3_isLive
  rw [q0, q16, if_neg (nI_nlt (by omega) (by omega)), if_neg (nI_ge (by omega) (by omega)), chk_nI h (by decide), rd_nI (by omega), if_pos hs]
theorem isLiveM_f {x : Int32} {ρ : KS} (h : ∀ p, p < 16 → x = nI p → ¬ ρ.1 6 p = 1) : m_X3_isLive x ρ = some (0, ρ) := by
  unfold m_X3_isLive
  rcases pk_ix x (n := 16) (by decide) with q | q | ⟨p, hp, rfl⟩
  · rw [if_pos q]
  · by_cases h0 : x < 0
    · rw [if_pos h0]
    · rw [if_neg h0, if_pos (show (16 : Int32) ≤ x from q)]
  · rw [q0, q16, if_neg (nI_nlt (by omega) (by omega)), if_neg (nI_ge (by omega) (by omega)), chk_nI hp (by decide), rd_nI (by omega), if_neg (h p hp rfl)]
/-- live, or not, on both sides -/
theorem live_cases {σ ρ : KS} (h : rP σ ρ) (x : Int32) : (∃ p, p < 16 ∧ x = nI p ∧ ρ.1 6 p = 1 ∧ σ.1 11 p = 1 ∧ m_X2_isLive x σ = some (1, σ) ∧ m_X3_isLive x ρ = some (1, ρ)) ∨ (m_X2_isLive x σ = some (0, σ) ∧ m_X3_isLive x ρ = some (0, ρ)) := by
  by_cases hq : ∃ p, p < 16 ∧ x = nI p ∧ ρ.1 6 p = 1
  · obtain ⟨p, h1, rfl, h3⟩ := hq
    have h4 : σ.1 11 p = 1 := by rw [(h p h1).1]; exact h3
    exact Or.inl ⟨p, h1, rfl, h3, h4, isLiveX_t h1 h4, isLiveM_t h1 h3⟩
  · right
    refine ⟨isLiveX_f fun p h1 h2 h3 => hq ⟨p, h1, h2, ?_⟩, isLiveM_f fun p h1 h2 h3 => hq ⟨p, h1, h2, h3⟩⟩
    rw [← (h p h1).1]; exact h3
/-! pages -/
theorem pageOf_t {x : Int32} {σ : KS} : m_X2_pageOf x σ = some (x >>> (6 &&& 31), σ) := rfl
theorem hasPage_X {σ ρ : KS} (h : rP σ ρ) {p : Nat} (hp : p < 16) (hl : ρ.1 6 p = 1) (x : Int32) : m_X2_hasPage (nI p) x σ = some (if x < 0 then 0 else if nI (bk ρ p) ≤ x then 0 else 1, σ) := by
  unfold m_X2_hasPage
  rw [bnd_eq (isLiveX_t hp (by rw [(h p hp).1]; exact hl)), if_neg (by decide)]
  by_cases h0 : x < 0
  · rw [if_pos h0, if_pos h0]
  · rw [if_neg h0, if_neg h0, chk_nI hp (by decide), rd_nI (by omega), (h p hp).2.2.1, (h p hp).2.2.2.1]
    split <;> rfl
theorem hasPage_0 {σ : KS} {x y : Int32} (h : m_X2_isLive x σ = some (0, σ)) : m_X2_hasPage x y σ = some (0, σ) := by
  unfold m_X2_hasPage
  rw [bnd_eq h, if_pos rfl]
theorem wordAt_t {σ : KS} {i : Nat} (h : i < 8192) : m_X2_wordAt (nI i) σ = some (σ.1 8 i, σ) := by
  unfold m_X2_wordAt
  rw [q0, q8192, if_neg (nI_nlt (by omega) (by omega)), if_neg (nI_ge (by omega) (by omega)), chk_nI h (by decide), rd_nI (by omega)]
theorem setWord_t {σ : KS} {i : Nat} {x : Int32} (h : i < 8192) : m_X2_setWord (nI i) x σ = some (0, wr σ 8 (nI i) x) := by
  unfold m_X2_setWord
  rw [q0, q8192, if_neg (nI_nlt (by omega) (by omega)), if_neg (nI_ge (by omega) (by omega)), chk_nI h (by decide)]
theorem tableIndex_t {σ : KS} {p k r : Nat} (hp : p < 16) (hk : k < 2 ^ 30) (hr : σ.1 15 p = nI r) : m_X2_tableIndex (nI p) (nI k) σ = some (nI (16 * r + k / 16), σ) := by
  unfold m_X2_tableIndex
  rw [chk_nI hp (by decide), rd_nI (by omega), hr, q16, pk_mul, pk_div (by omega) (by decide) (by decide), nI_add, Nat.mul_comm]
theorem pageIndex_t {σ : KS} {p k r t : Nat} (hp : p < 16) (hk : k < 256) (hr : σ.1 15 p = nI r) (hr5 : r < 512) (ht : σ.1 8 (16 * r + k / 16) = nI t) : m_X2_pageIndex (nI p) (nI k) σ = some (nI (16 * t + k % 16), σ) := by
  unfold m_X2_pageIndex
  rw [bnd_eq (tableIndex_t hp (by omega) hr), bnd_eq (wordAt_t (by omega)), ht, q16, pk_rem (by omega) (by decide) (by decide), pk_mul, nI_add, Nat.mul_comm]
/-- the frame of a page -/
theorem frameOfPage_t {σ ρ : KS} (h : Rel σ ρ) {p k : Nat} (hp : p < 16) (hl : ρ.1 6 p = 1) (hk : k < bk ρ p) : m_X2_frameOfPage (nI p) (nI k) σ = some (nI (pgN ρ p k), σ) := by
  obtain ⟨-, -, -, hP, hQ, hT, hG, -, -⟩ := h
  obtain ⟨-, -, -, -, b1, -, -, -⟩ := hP p hp
  obtain ⟨a1, -, a3, -, -⟩ := hQ.1 p hp (by rw [hl]; decide)
  obtain ⟨t1, -, -, -, t5⟩ := hT.1 p (k / 16) hp (by omega)
  obtain ⟨g1, -, g3⟩ := hG.1 p k hp hk
  unfold m_X2_frameOfPage
  rw [bnd_eq (hasPage_X hP hp hl (nI k)), if_neg (show ¬ nI k < 0 from nI_nlt (b := 0) (by omega) (by omega)), if_neg (show ¬ nI (bk ρ p) ≤ nI k from nI_ge hk (by omega)), if_neg (by decide), bnd_eq (pageIndex_t hp (by omega) a3 a1 t5), bnd_eq (wordAt_t (by omega)), g3]
theorem frameOfPage_n {σ : KS} {x y : Int32} (h : m_X2_hasPage x y σ = some (0, σ)) : m_X2_frameOfPage x y σ = some (-1, σ) := by
  unfold m_X2_frameOfPage
  rw [bnd_eq h, if_pos rfl]
theorem sim_current : ∀ (σ ρ : KS), Rel σ ρ → ∃ (r : Int32) (σ' ρ' : KS), m_X2_current σ = some (r, σ') ∧ m_X3_current ρ = some (r, ρ') ∧ Rel σ' ρ' := by
  intro σ ρ h
  obtain ⟨n, h1, h2, h3, h4, h5, h6⟩ := h.2.2.2.2.2.2.2.1
  unfold m_X2_current m_X3_current gv
  rw [h2, h3]
  by_cases e : nI n = 0
  · rw [if_pos e, if_pos e]; exact ⟨-1, σ, ρ, rfl, rfl, h⟩
  · have hn : 0 < n := by
      rcases Nat.eq_zero_or_pos n with q | q
      · subst q; exact absurd rfl e
      · exact q
    rw [if_neg e, if_neg e, q0, chk_nI (by decide) (by decide), chk_nI (by decide) (by decide), rd_nI (by decide), rd_nI (by decide), (h4 0 hn).1]
    exact ⟨ρ.1 13 0, σ, ρ, rfl, rfl, h⟩
theorem sim_frame : ∀ (a b : Int32) (σ ρ : KS), Rel σ ρ → ∃ (r : Int32) (σ' ρ' : KS), m_X2_frame a b σ = some (r, σ') ∧ m_X3_frame a b ρ = some (r, ρ') ∧ Rel σ' ρ' := by
  intro a b σ ρ h
  have hP := h.2.2.2.1
  unfold m_X2_frame m_X3_frame
  rcases live_cases hP a with ⟨p, hp, rfl, hl, -, -, r2⟩ | ⟨r1, r2⟩
  · obtain ⟨-, -, -, b4, b5, -, -, -⟩ := hP p hp
    rw [bnd_eq r2, if_neg (by decide)]
    by_cases h0 : b < 0
    · have := hasPage_X hP hp hl b
      rw [if_pos h0] at this
      rw [bnd_eq (frameOfPage_n this), if_pos h0]
      exact ⟨-1, σ, ρ, rfl, rfl, h⟩
    · by_cases hb : nI (bk ρ p) ≤ b
      · have := hasPage_X hP hp hl b
        rw [if_neg h0, if_pos hb] at this
        rw [bnd_eq (frameOfPage_n this), if_neg h0, chk_nI hp (by decide), rd_nI (by omega), b4, if_pos hb]
        exact ⟨-1, σ, ρ, rfl, rfl, h⟩
      · obtain ⟨k, hk, rfl⟩ : ∃ k, k < bk ρ p ∧ b = nI k := by
          rcases pk_ix b (n := bk ρ p) (by omega) with q | q | ⟨k, hk, e⟩
          · exact absurd q h0
          · exact absurd q hb
          · exact ⟨k, hk, e⟩
        obtain ⟨g1, g2, -⟩ := h.2.2.2.2.2.2.1.1 p k hp hk
        rw [bnd_eq (frameOfPage_t h hp hl hk), if_neg h0, chk_nI hp (by decide), rd_nI (by omega), b4, if_neg hb, q256, pk_mul, nI_add, chk_nI (by omega) (by decide), rd_nI (by omega), g2]
        exact ⟨_, σ, ρ, rfl, rfl, h⟩
  · rw [bnd_eq r2, if_pos rfl, bnd_eq (frameOfPage_n (hasPage_0 r1))]
    exact ⟨-1, σ, ρ, rfl, rfl, h⟩
