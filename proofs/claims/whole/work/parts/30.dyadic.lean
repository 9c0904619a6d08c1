/-! PURE: blocks of frames. i ~k f: the same block of order k -/
def sb (k i f : Nat) : Prop := i / 2 ^ k = f / 2 ^ k
theorem sb.mono {k j i f : Nat} (h : k ≤ j) (hs : sb k i f) : sb j i f := by
  obtain ⟨d, rfl⟩ := Nat.exists_eq_add_of_le h
  unfold sb at *
  rw [Nat.pow_add, ← Nat.div_div_eq_div_mul, ← Nat.div_div_eq_div_mul, hs]
theorem sb.rfl' {k i : Nat} : sb k i i := rfl
theorem sb.symm {k i f : Nat} (h : sb k i f) : sb k f i := Eq.symm h
theorem sb.trans {k i f g : Nat} (h : sb k i f) (h2 : sb k f g) : sb k i g := Eq.trans h h2
/-- the block of order k round f is all free -/
def af (Z : Nat → Prop) (k f : Nat) : Prop := ∀ i, sb k i f → Z i
theorem af.mono {Z : Nat → Prop} {k j f : Nat} (h : k ≤ j) (ha : af Z j f) : af Z k f := fun i hi => ha i (hi.mono h)
theorem af.at {Z : Nat → Prop} {k f g : Nat} (ha : af Z k f) (h : sb k g f) : af Z k g := fun i hi => ha i (hi.trans h)
def mx (Z : Nat → Prop) (k f : Nat) : Prop := af Z k f ∧ (k = 7 ∨ ¬ af Z (k + 1) f)
theorem mx.at {Z : Nat → Prop} {k f g : Nat} (h : mx Z k f) (hs : sb k g f) : mx Z k g :=
  ⟨h.1.at hs, h.2.imp id (fun q a => q (a.at (hs.symm.mono (Nat.le_succ k))))⟩
theorem mx.uniq {Z : Nat → Prop} {k j f : Nat} (hk : k < 8) (hj : j < 8) (h : mx Z k f) (h2 : mx Z j f) : j = k := by
  rcases Nat.lt_trichotomy j k with q | q | q
  · exact absurd (h.1.mono q) (h2.2.resolve_left (by omega))
  · exact q
  · exact absurd (h2.1.mono q) (h.2.resolve_left (by omega))
/-- a block is taken out -/
def zm (Z : Nat → Prop) (k f : Nat) : Nat → Prop := fun i => Z i ∧ ¬ sb k i f
theorem mx_out {Z : Nat → Prop} {k f j g : Nat} (hk : k < 8) (hj : j < 8) (h : mx Z k f) (hn : ¬ sb k g f) : mx (zm Z k f) j g ↔ mx Z j g := by
  constructor
  · intro ⟨h1, h2⟩
    refine ⟨fun i hi => (h1 i hi).1, ?_⟩
    rcases h2 with q | q
    · exact Or.inl q
    by_cases hj7 : j = 7
    · exact Or.inl hj7
    refine Or.inr fun a => q fun i hi => ⟨a i hi, fun hik => ?_⟩
    rcases Nat.lt_or_ge j k with c | c
    · exact hn (((hi.mono c).symm.trans hik))
    · have hg : sb (j + 1) g f := hi.symm.trans (hik.mono (by omega))
      have : af Z (j + 1) f := a.at hg.symm
      exact absurd (this.mono (show k + 1 ≤ j + 1 by omega)) (h.2.resolve_left (by omega))
  · intro ⟨h1, h2⟩
    refine ⟨fun i hi => ⟨h1 i hi, fun hik => ?_⟩, h2.imp id (fun q a => q fun i hi => (a i hi).1)⟩
    rcases Nat.lt_or_ge k j with c | c
    · have hg : sb j g f := hi.symm.trans (hik.mono (by omega))
      have : af Z j f := h1.at hg.symm
      exact absurd (this.mono c) (h.2.resolve_left (by omega))
    · exact hn ((hi.mono c).symm.trans hik)
theorem mx_in {Z : Nat → Prop} {k f j g : Nat} (hs : sb k g f) : ¬ mx (zm Z k f) j g := fun h => (h.1 g sb.rfl').2 hs
theorem sb_al {k i f : Nat} (hi : i % 2 ^ k = 0) (hf : f % 2 ^ k = 0) (h : sb k i f) : i = f := by
  have h1 := Nat.div_add_mod i (2 ^ k)
  have h2 := Nat.div_add_mod f (2 ^ k)
  unfold sb at h
  rw [hi, h] at h1
  rw [hf] at h2
  omega
theorem sb_iff {k i f : Nat} (hf : f % 2 ^ k = 0) : sb k i f ↔ f ≤ i ∧ i < f + 2 ^ k := by
  have hp : 0 < 2 ^ k := Nat.two_pow_pos k
  have h1 := Nat.div_add_mod i (2 ^ k)
  have h2 := Nat.div_add_mod f (2 ^ k)
  have h3 := Nat.mod_lt i hp
  unfold sb
  constructor
  · intro h
    rw [h] at h1
    omega
  · intro ⟨a, b⟩
    rw [Nat.div_eq_of_lt_le (k := f / 2 ^ k)]
    · rw [Nat.mul_comm]; omega
    · rw [Nat.add_mul, Nat.one_mul, Nat.mul_comm]; omega
/-- the class's row of orders tells the largest free blocks -/
def can (O : Nat → Int32) (Z : Nat → Prop) : Prop := (∀ f k, f < 128 → k < 8 → (O f = nI k ↔ f % 2 ^ k = 0 ∧ mx Z k f)) ∧ ∀ f, f < 128 → O f = -1 ∨ ∃ k, k < 8 ∧ O f = nI k
theorem nI_m1 {k : Nat} (h : k < 2 ^ 31) : ¬ nI k = -1 := by
  intro q
  have := congrArg Int32.toInt q
  rw [nI_toInt h] at this
  have h2 : (-1 : Int32).toInt = -1 := rfl
  omega
theorem m1_nI {k : Nat} (h : k < 2 ^ 31) : ¬ (-1 : Int32) = nI k := fun q => nI_m1 h q.symm
theorem upd_eq {f : Nat → Int32} {k : Nat} {x : Int32} : upd f k x k = x := by simp [upd]
theorem upd_ne {f : Nat → Int32} {k j : Nat} {x : Int32} (h : j ≠ k) : upd f k x j = f j := by simp [upd, h]
theorem can_out {O : Nat → Int32} {Z : Nat → Prop} {k f : Nat} (hk : k < 8) (hf : f < 128) (ha : f % 2 ^ k = 0) (hc : can O Z) (hm : mx Z k f) : can (upd O f (-1)) (zm Z k f) := by
  constructor
  · intro g j hg hj
    by_cases e : g = f
    · subst e
      rw [upd_eq]
      exact ⟨fun q => absurd q (m1_nI (by omega)), fun q => absurd q.2 (mx_in sb.rfl')⟩
    · rw [upd_ne e, hc.1 g j hg hj]
      by_cases hs : sb k g f
      · refine ⟨fun ⟨q1, q2⟩ => ?_, fun q => absurd q.2 (mx_in hs)⟩
        have : j = k := (hm.at hs).uniq hk hj q2
        subst this
        exact absurd (sb_al q1 ha hs) e
      · rw [mx_out hk hj hm hs]
  · intro g hg
    by_cases e : g = f
    · subst e; rw [upd_eq]; exact Or.inl rfl
    · rw [upd_ne e]; exact hc.2 g hg
theorem can_none {O : Nat → Int32} {Z : Nat → Prop} {k f g : Nat} (hc : can O (zm Z k f)) (hg : g < 128) (hs : sb k g f) : O g = -1 := by
  rcases hc.2 g hg with q | ⟨j, hj, q⟩
  · exact q
  · exact absurd ((hc.1 g j hg hj).mp q).2 (mx_in hs)
theorem can_in {O : Nat → Int32} {Z : Nat → Prop} {k f : Nat} (hk : k < 8) (hf : f < 128) (ha : f % 2 ^ k = 0) (hc : can O (zm Z k f)) (hm : mx Z k f) : can (upd O f (nI k)) Z := by
  constructor
  · intro g j hg hj
    by_cases e : g = f
    · subst e
      rw [upd_eq, nI_eq (by omega) (by omega)]
      constructor
      · intro q; subst q; exact ⟨ha, hm⟩
      · intro q; exact (hm.uniq hk hj q.2).symm
    · rw [upd_ne e]
      by_cases hs : sb k g f
      · rw [can_none hc hg hs]
        refine ⟨fun q => absurd q (m1_nI (by omega)), fun ⟨q1, q2⟩ => ?_⟩
        have : j = k := (hm.at hs).uniq hk hj q2
        subst this
        exact absurd (sb_al q1 ha hs) e
      · rw [hc.1 g j hg hj, mx_out hk hj hm hs]
  · intro g hg
    by_cases e : g = f
    · subst e; rw [upd_eq]; exact Or.inr ⟨k, hk, rfl⟩
    · rw [upd_ne e]; exact hc.2 g hg
/-- the reference's row of free blocks tells the same -/
def canR (F : Nat → Int32) (Z : Nat → Prop) : Prop := ∀ f k, f < 128 → k < 8 → (F (128 * k + f) = 0 ∨ F (128 * k + f) = 1) ∧ (F (128 * k + f) = 1 ↔ f % 2 ^ k = 0 ∧ mx Z k f)
theorem canR_out {F : Nat → Int32} {Z : Nat → Prop} {k f : Nat} (hk : k < 8) (hf : f < 128) (ha : f % 2 ^ k = 0) (hc : canR F Z) (hm : mx Z k f) : canR (upd F (128 * k + f) 0) (zm Z k f) := by
  intro g j hg hj
  by_cases e : 128 * j + g = 128 * k + f
  · have e1 : j = k := by omega
    have e2 : g = f := by omega
    subst e1; subst e2
    rw [upd_eq]
    exact ⟨Or.inl rfl, fun q => absurd q (by decide), fun q => absurd q.2 (mx_in sb.rfl')⟩
  · rw [upd_ne e]
    refine ⟨(hc g j hg hj).1, ?_⟩
    rw [(hc g j hg hj).2]
    by_cases hs : sb k g f
    · refine ⟨fun ⟨q1, q2⟩ => ?_, fun q => absurd q.2 (mx_in hs)⟩
      have : j = k := (hm.at hs).uniq hk hj q2
      subst this
      exact absurd (by rw [sb_al q1 ha hs]) e
    · rw [mx_out hk hj hm hs]
theorem canR_in {F : Nat → Int32} {Z : Nat → Prop} {k f : Nat} (hk : k < 8) (hf : f < 128) (ha : f % 2 ^ k = 0) (hc : canR F (zm Z k f)) (hm : mx Z k f) : canR (upd F (128 * k + f) 1) Z := by
  intro g j hg hj
  by_cases e : 128 * j + g = 128 * k + f
  · have e1 : j = k := by omega
    have e2 : g = f := by omega
    subst e1; subst e2
    rw [upd_eq]
    exact ⟨Or.inr rfl, fun _ => ⟨ha, hm⟩, fun _ => rfl⟩
  · rw [upd_ne e]
    refine ⟨(hc g j hg hj).1, ?_⟩
    rw [(hc g j hg hj).2]
    by_cases hs : sb k g f
    · refine ⟨fun q => absurd q.2 (mx_in hs), fun ⟨q1, q2⟩ => ?_⟩
      have : j = k := (hm.at hs).uniq hk hj q2
      subst this
      exact absurd (by rw [sb_al q1 ha hs]) e
    · rw [mx_out hk hj hm hs]
/-- counting -/
noncomputable def cn (P : Nat → Prop) : Nat → Nat
  | 0 => 0
  | n + 1 => cn P n + @ite Nat (P n) (Classical.propDecidable _) 1 0
theorem cn_s {P : Nat → Prop} {n : Nat} (h : P n) : cn P (n + 1) = cn P n + 1 := by show cn P n + _ = _; rw [if_pos h]
theorem cn_s0 {P : Nat → Prop} {n : Nat} (h : ¬ P n) : cn P (n + 1) = cn P n := by show cn P n + _ = _; rw [if_neg h]; rfl
theorem cn_congr {P Q : Nat → Prop} : ∀ {n : Nat}, (∀ i, i < n → (P i ↔ Q i)) → cn P n = cn Q n := by
  intro n
  induction n with
  | zero => intro _; rfl
  | succ n ih =>
    intro h
    have h1 := ih (fun i hi => h i (by omega))
    by_cases hp : P n
    · rw [cn_s hp, cn_s ((h n (by omega)).mp hp), h1]
    · rw [cn_s0 hp, cn_s0 (fun q => hp ((h n (by omega)).mpr q)), h1]
theorem cn_le {P : Nat → Prop} : ∀ {n : Nat}, cn P n ≤ n := by
  intro n
  induction n with
  | zero => exact Nat.le_refl _
  | succ n ih =>
    by_cases hp : P n
    · rw [cn_s hp]; omega
    · rw [cn_s0 hp]; omega
theorem cn_one {P Q : Nat → Prop} {f : Nat} : ∀ {n : Nat}, f < n → ¬ P f → Q f → (∀ i, i < n → i ≠ f → (P i ↔ Q i)) → cn Q n = cn P n + 1 := by
  intro n
  induction n with
  | zero => intro h; omega
  | succ n ih =>
    intro hf hp hq h
    by_cases e : n = f
    · subst e
      rw [cn_s hq, cn_s0 hp, cn_congr (P := Q) (Q := P) (fun i hi => (h i (by omega) (by omega)).symm)]
    · have h1 := ih (by omega) hp hq (fun i hi he => h i (by omega) he)
      by_cases hP : P n
      · rw [cn_s hP, cn_s ((h n (by omega) e).mp hP), h1]
      · rw [cn_s0 hP, cn_s0 (fun q => hP ((h n (by omega) e).mpr q)), h1]
theorem cn_split {P Q : Nat → Prop} : ∀ {n : Nat}, cn P n = cn (fun i => P i ∧ ¬ Q i) n + cn (fun i => P i ∧ Q i) n := by
  intro n
  induction n with
  | zero => rfl
  | succ n ih =>
    by_cases hP : P n
    · by_cases hQ : Q n
      · rw [cn_s hP, cn_s0 (P := fun i => P i ∧ ¬ Q i) (fun q => q.2 hQ), cn_s (P := fun i => P i ∧ Q i) ⟨hP, hQ⟩, ih]; omega
      · rw [cn_s hP, cn_s (P := fun i => P i ∧ ¬ Q i) ⟨hP, hQ⟩, cn_s0 (P := fun i => P i ∧ Q i) (fun q => hQ q.2), ih]; omega
    · rw [cn_s0 hP, cn_s0 (P := fun i => P i ∧ ¬ Q i) (fun q => hP q.1), cn_s0 (P := fun i => P i ∧ Q i) (fun q => hP q.1), ih]
theorem cn_0 {P : Nat → Prop} : ∀ {n : Nat}, (∀ i, i < n → ¬ P i) → cn P n = 0 := by
  intro n
  induction n with
  | zero => intro _; rfl
  | succ n ih => intro h; rw [cn_s0 (h n (by omega)), ih (fun i hi => h i (by omega))]
theorem cn_int {a b : Nat} : ∀ {n : Nat}, b ≤ n → cn (fun i => a ≤ i ∧ i < b) n = b - a := by
  intro n
  induction n with
  | zero => intro h; show 0 = _; omega
  | succ n ih =>
    intro h
    by_cases e : b ≤ n
    · rw [cn_s0 (by omega), ih e]
    · have eb : b = n + 1 := by omega
      subst eb
      by_cases ha : a ≤ n
      · rw [cn_s ⟨ha, by omega⟩]
        have : cn (fun i => a ≤ i ∧ i < n + 1) n = cn (fun i => a ≤ i ∧ i < n) n := cn_congr (fun i hi => ⟨fun q => ⟨q.1, hi⟩, fun q => ⟨q.1, by omega⟩⟩)
        rw [this]
        clear ih
        have key : ∀ m, cn (fun i => a ≤ i ∧ i < m) m = m - a := by
          intro m
          induction m with
          | zero => show 0 = _; omega
          | succ m ihm =>
            have e1 : cn (fun i => a ≤ i ∧ i < m + 1) m = cn (fun i => a ≤ i ∧ i < m) m := cn_congr (fun i hi => ⟨fun q => ⟨q.1, hi⟩, fun q => ⟨q.1, by omega⟩⟩)
            by_cases hm : a ≤ m
            · rw [cn_s ⟨hm, by omega⟩, e1, ihm]; omega
            · rw [cn_s0 (by omega), e1, ihm]; omega
        rw [key]; omega
      · rw [cn_s0 (by omega), cn_0 (fun i hi => by omega)]; omega
theorem cn_zm {Z : Nat → Prop} {k f : Nat} (hf : f + 2 ^ k ≤ 128) (ha : f % 2 ^ k = 0) (h : af Z k f) : cn Z 128 = cn (zm Z k f) 128 + 2 ^ k := by
  rw [cn_split (P := Z) (Q := fun i => sb k i f)]
  have h1 : cn (fun i => Z i ∧ sb k i f) 128 = cn (fun i => f ≤ i ∧ i < f + 2 ^ k) 128 := cn_congr (fun i _ => by
    rw [← sb_iff ha]
    exact ⟨fun q => q.2, fun q => ⟨h i q, q⟩⟩)
  rw [h1, cn_int hf]
  show _ = cn (fun i => Z i ∧ ¬ sb k i f) 128 + _
  omega
/-- the sum of the sizes -/
def sz (v : Int32) : Nat := if v = -1 then 0 else 2 ^ v.toNatClampNeg
def sm (O : Nat → Int32) : Nat → Nat
  | 0 => 0
  | n + 1 => sm O n + sz (O n)
theorem sm_congr {O P : Nat → Int32} : ∀ {n : Nat}, (∀ i, i < n → O i = P i) → sm O n = sm P n := by
  intro n
  induction n with
  | zero => intro _; rfl
  | succ n ih => intro h; show _ + _ = _ + _; rw [ih (fun i hi => h i (by omega)), h n (by omega)]
theorem sm_upd {O : Nat → Int32} {f : Nat} {v : Int32} : ∀ {n : Nat}, f < n → sm (upd O f v) n + sz (O f) = sm O n + sz v := by
  intro n
  induction n with
  | zero => intro h; omega
  | succ n ih =>
    intro h
    show sm (upd O f v) n + sz (upd O f v n) + _ = sm O n + sz (O n) + _
    by_cases e : n = f
    · subst e
      rw [upd_eq, sm_congr (O := upd O n v) (P := O) (fun i hi => upd_ne (by omega))]
      omega
    · rw [upd_ne e]
      have := ih (by omega)
      omega
theorem sz_nI {k : Nat} (h : k < 2 ^ 31) : sz (nI k) = 2 ^ k := by unfold sz; rw [if_neg (nI_m1 h), nI_clamp h]
theorem sz_m1 : sz (-1) = 0 := by unfold sz; rw [if_pos rfl]
