/-! THE CLAIM OUT OF ONE WALK OF THE LAW'S BODY. Your part is whole_start (and what it stands on); all else here is the same for every law, but numbers. -/
def R_law : String := "PageKernelLaw"
def lw_P (b : Addr) (xs : List Int32) (args : Array Value) (s : State) : Prop := args = #[.ref b] ∧ s.IntsAt b xs ∧ xs.length ≤ 2048 ∧ (Jvm.Cond.and given_1 narrow_1).before args s = true
def lw_Q (_ : Array Value) (s : State) (o : Outcome) (t : State) : Prop := o = .returned (some (.int 1)) ∧ Framed s o t [] 34 25074
def lw_Z (below : List Frame) (a : Array Value) (s : State) : State → Prop := fun t => ∃ o, t.status = .running ∧ Ended t below o ∧ lw_Q a s o t
/-- the law's own end, with 1 on the stack, nothing written that was there before, its room as the claim has it -/
theorem lw_ret {p : Program} {l : Launch} {e : Env} {s : State} {m : MethodId} {below : List Frame} {meth : Method} {c : Code} {b : Nat} (hx : p.tables.exec = Jvm.exec) (hb : c.code = code) (hr : meth.sig.returnType = ret) (hlocks : meth.locks = false) {pc : Nat} {H : Heap} {ls : Array Slot} (hdg : decode code pc = .ok (.ireturn, 1)) : W p l e room_1 s m #[Value.ref b] below meth c H [] 34 25074 (lw_Z below #[Value.ref b] s) (F0 m pc ls [.int 1]) := by
  intro T hT X
  obtain ⟨fs, hret, hrun, hended, hW, hframe⟩ := X.leave (v := some (.int 1)) (hlocks := hlocks) (fun h => by rw [hr] at h; cases h)
  have hmeth' : T.vm.method? m = some meth := X.method'
  refine ⟨T.setFrames fs, ?_, .returned (some (.int 1)), hrun, hended, rfl, ⟨_, rfl⟩, hW, hframe⟩
  jvm_step X.here [X.here.top, hx, hb, hdg, hmeth', hr, ret, narrow_b1]
  (try refine ⟨rfl, ?_⟩); (try refine ⟨rfl, ?_⟩)
  first | (intro acts; rw [hret _ acts rfl rfl rfl]) | rw [hret _ _ rfl rfl rfl]
  exact Steps.refl _
/-- what holds at the law's entry: the machine, the code, the tables' words (any of lw_tbl by 'hts w (by decide +kernel)'), the script of L ints xs at the cell b, what the Statement gives of the start (any of its parts by flat_of_before) -/
def lw_At (p : Program) (s : State) (m : MethodId) (meth : Method) (c : Code) (b L : Nat) (xs : Nat → Int32) : Prop :=
  p.tables.exec = Jvm.exec ∧ c.code = code ∧ meth.sig.returnType = ret ∧ c.maxLocals = 4 ∧ s.vm.findClass R_law = some m.cls ∧ (∀ w ∈ lw_tbl, w.before #[Value.ref b] s = true) ∧ va_X b L xs s s.heap ∧ b < s.heap.size ∧ meth.locks = false ∧ (Jvm.Cond.and given_1 narrow_1).before #[Value.ref b] s = true
/-- what the models must do alike, call by call -/
def Sim (Rel : KS → KS → Prop) : Prop :=
  (∀ (σ ρ : KS), Rel σ ρ → ∃ (r : Int32) (σ' ρ' : KS), m_X2_spawn σ = some (r, σ') ∧ m_X3_spawn ρ = some (r, ρ') ∧ Rel σ' ρ') ∧
  (∀ (a : Int32) (σ ρ : KS), Rel σ ρ → ∃ (r : Int32) (σ' ρ' : KS), m_X2_fork a σ = some (r, σ') ∧ m_X3_fork a ρ = some (r, ρ') ∧ Rel σ' ρ') ∧
  (∀ (a b : Int32) (σ ρ : KS), Rel σ ρ → ∃ (r : Int32) (σ' ρ' : KS), m_X2_grow a b σ = some (r, σ') ∧ m_X3_grow a b ρ = some (r, ρ') ∧ Rel σ' ρ') ∧
  (∀ (a b : Int32) (σ ρ : KS), Rel σ ρ → ∃ (r : Int32) (σ' ρ' : KS), m_X2_load a b σ = some (r, σ') ∧ m_X3_load a b ρ = some (r, ρ') ∧ Rel σ' ρ') ∧
  (∀ (a b : Int32) (σ ρ : KS), Rel σ ρ → ∃ (r : Int32) (σ' ρ' : KS), m_X2_has a b σ = some (r, σ') ∧ m_X3_has a b ρ = some (r, ρ') ∧ Rel σ' ρ') ∧
  (∀ (a b c : Int32) (σ ρ : KS), Rel σ ρ → ∃ (r : Int32) (σ' ρ' : KS), m_X2_store a b c σ = some (r, σ') ∧ m_X3_store a b c ρ = some (r, ρ') ∧ Rel σ' ρ') ∧
  (∀ (a b : Int32) (σ ρ : KS), Rel σ ρ → ∃ (r : Int32) (σ' ρ' : KS), m_X2_exit a b σ = some (r, σ') ∧ m_X3_exit a b ρ = some (r, ρ') ∧ Rel σ' ρ') ∧
  (∀ (a : Int32) (σ ρ : KS), Rel σ ρ → ∃ (r : Int32) (σ' ρ' : KS), m_X2_reap a σ = some (r, σ') ∧ m_X3_reap a ρ = some (r, ρ') ∧ Rel σ' ρ') ∧
  (∀ (σ ρ : KS), Rel σ ρ → ∃ (r : Int32) (σ' ρ' : KS), m_X2_tick σ = some (r, σ') ∧ m_X3_tick ρ = some (r, ρ') ∧ Rel σ' ρ') ∧
  (∀ (σ ρ : KS), Rel σ ρ → ∃ (r : Int32) (σ' ρ' : KS), m_X2_current σ = some (r, σ') ∧ m_X3_current ρ = some (r, ρ') ∧ Rel σ' ρ') ∧
  (∀ (a : Int32) (σ ρ : KS), Rel σ ρ → ∃ (r : Int32) (σ' ρ' : KS), m_X2_block a σ = some (r, σ') ∧ m_X3_block a ρ = some (r, ρ') ∧ Rel σ' ρ') ∧
  (∀ (a : Int32) (σ ρ : KS), Rel σ ρ → ∃ (r : Int32) (σ' ρ' : KS), m_X2_unblock a σ = some (r, σ') ∧ m_X3_unblock a ρ = some (r, ρ') ∧ Rel σ' ρ') ∧
  (∀ (σ ρ : KS), Rel σ ρ → ∃ (r : Int32) (σ' ρ' : KS), m_X2_freeFrames σ = some (r, σ') ∧ m_X3_freeFrames ρ = some (r, ρ') ∧ Rel σ' ρ') ∧
  (∀ (a b : Int32) (σ ρ : KS), Rel σ ρ → ∃ (r : Int32) (σ' ρ' : KS), m_X2_free a b σ = some (r, σ') ∧ m_X3_free a b ρ = some (r, ρ') ∧ Rel σ' ρ') ∧
  (∀ (a b : Int32) (σ ρ : KS), Rel σ ρ → ∃ (r : Int32) (σ' ρ' : KS), m_X2_frame a b σ = some (r, σ') ∧ m_X3_frame a b ρ = some (r, ρ') ∧ Rel σ' ρ') ∧
  (∀ (a b : Int32) (σ ρ : KS), Rel σ ρ → ∃ (r : Int32) (σ' ρ' : KS), m_X2_about a b σ = some (r, σ') ∧ m_X3_about a b ρ = some (r, ρ') ∧ Rel σ' ρ') ∧
  (∀ (a b : Int32) (σ ρ : KS), Rel σ ρ → ∃ (r : Int32) (σ' ρ' : KS), m_X2_process a b σ = some (r, σ') ∧ m_X3_process a b ρ = some (r, ρ') ∧ Rel σ' ρ') ∧
  (∀ (a : Int32) (σ ρ : KS), Rel σ ρ → ∃ (r : Int32) (σ' ρ' : KS), m_X2_told a σ = some (r, σ') ∧ m_X3_told a ρ = some (r, ρ') ∧ Rel σ' ρ')
theorem va_D.congr {A : Nat → Prop} {ws ws' : va_W} (h : ws.map Prod.fst = ws'.map Prod.fst) (hD : va_D A ws) : va_D A ws' := by
  have key : ∀ (k : Nat) (q : Nat × va_E), ws'[k]? = some q → ∃ q' : Nat × va_E, ws[k]? = some q' ∧ q'.1 = q.1 := by
    intro k q hk
    have h1 : (ws'.map Prod.fst)[k]? = some q.1 := by rw [List.getElem?_map, hk]; rfl
    rw [← h, List.getElem?_map] at h1
    cases hw : ws[k]? with
    | none => rw [hw] at h1; cases h1
    | some q' => rw [hw] at h1; exact ⟨q', rfl, Option.some.inj h1⟩
  refine ⟨fun i j p q hi hj e => ?_, fun k q hk => ?_⟩
  · obtain ⟨p', h1, e1⟩ := key i p hi
    obtain ⟨q', h2, e2⟩ := key j q hj
    exact hD.1 i j p' q' h1 h2 (by rw [e1, e2]; exact e)
  · obtain ⟨q', h1, e1⟩ := key k q hk
    rw [← e1]; exact hD.2 k q' h1
/-- the addresses of a world -/
def inW (ws : va_W) (q : Nat) : Prop := ∃ k : Nat, (ws.map Prod.fst)[k]? = some q
theorem vD_inW {A : Nat → Prop} {ws ws' : va_W} (h : ws.map Prod.fst = ws'.map Prod.fst) (hD : va_D A ws) : va_D (inW ws) ws' := by
  have h2 := va_D.congr h hD
  exact ⟨h2.1, fun k q hk => ⟨k, by rw [h, List.getElem?_map, hk]; rfl⟩⟩
def LX (p : Program) (s : State) (m : MethodId) (meth : Method) (c : Code) (b L : Nat) (xs : Nat → Int32) (D : va_G) (cI cZ : ClassId) (α β : Nat → Nat) : Prop :=
  CallFix p m c cL_law 4 s #[Value.ref b] wA RL ∧ va_K D vwCl (tyA cI cZ) s ∧ nst s ∧ va_X b L xs s s.heap ∧ b < s.heap.size ∧ meth.locks = false ∧ meth.sig.returnType = ret ∧
  va_D (fun q : Nat => s.heap.size ≤ q) (kwX cI α sX0 ++ kwM cI cZ β sM0)
def Lw (p : Program) (l : Launch) (e : Env) (s : State) (m : MethodId) (below : List Frame) (meth : Method) (c : Code) (b : Nat) (D : va_G) (cI cZ : ClassId) (α β : Nat → Nat) (pc : Nat) (lv : List (Nat × Value)) (st : List Value) (σ ρ : KS) : Prop :=
  ∀ (ls : Array Slot) (H : Heap) (locs : List Loc), lv_has ls 4 lv → va_P D vwCl (kwX cI α σ) H → va_P D vwCl (kwM cI cZ β ρ) H → va_S (fun q : Nat => s.heap.size ≤ q) s.heap H locs → W p l e room_1 s m #[Value.ref b] below meth c H locs 34 25074 (lw_Z below #[Value.ref b] s) (F0 m pc ls st)
section LWR
variable {p : Program} {l : Launch} {e : Env} {s : State} {m : MethodId} {below : List Frame} {meth : Method} {c : Code} {b L : Nat} {xs : Nat → Int32} {D : va_G} {cI cZ : ClassId} {α β : Nat → Nat} {pc : Nat} {lv : List (Nat × Value)} {st : List Value} {σ ρ : KS}
abbrev AX (cI : ClassId) (α : Nat → Nat) : Nat → Prop := inW (kwX cI α sX0)
abbrev AM (cI cZ : ClassId) (β : Nat → Nat) : Nat → Prop := inW (kwM cI cZ β sM0)
theorem va_D.left {A : Nat → Prop} {u v : va_W} (h : va_D A (u ++ v)) : va_D A u := by
  refine ⟨fun i j p q hi hj e => h.1 i j p q ?_ ?_ e, fun k q hk => h.2 k q ?_⟩
  · rw [List.getElem?_append_left (List.getElem?_eq_some_iff.mp hi).1]; exact hi
  · rw [List.getElem?_append_left (List.getElem?_eq_some_iff.mp hj).1]; exact hj
  · rw [List.getElem?_append_left (List.getElem?_eq_some_iff.mp hk).1]; exact hk
theorem va_D.right {A : Nat → Prop} {u v : va_W} (h : va_D A (u ++ v)) : va_D A v := by
  have key : ∀ (k : Nat) (q : Nat × va_E), v[k]? = some q → (u ++ v)[u.length + k]? = some q := fun k q hk => by rw [List.getElem?_append_right (by omega), Nat.add_sub_cancel_left]; exact hk
  refine ⟨fun i j p q hi hj e => ?_, fun k q hk => h.2 _ q (key k q hk)⟩
  have := h.1 _ _ p q (key i p hi) (key j q hj) e
  omega
theorem va_D.apart {A : Nat → Prop} {u v : va_W} (h : va_D A (u ++ v)) {q : Nat} (h1 : inW u q) (h2 : inW v q) : False := by
  obtain ⟨i, hi⟩ := h1
  obtain ⟨j, hj⟩ := h2
  rw [List.getElem?_map] at hi hj
  cases hu : u[i]? with
  | none => rw [hu] at hi; cases hi
  | some x =>
    cases hv : v[j]? with
    | none => rw [hv] at hj; cases hj
    | some y =>
      rw [hu] at hi; rw [hv] at hj
      have hl := (List.getElem?_eq_some_iff.mp hu).1
      have e1 : (u ++ v)[i]? = some x := by rw [List.getElem?_append_left hl]; exact hu
      have e2 : (u ++ v)[u.length + j]? = some y := by rw [List.getElem?_append_right (by omega), Nat.add_sub_cancel_left]; exact hv
      have := h.1 _ _ x y e1 e2 ((Option.some.inj hi).trans (Option.some.inj hj).symm)
      omega
theorem inW.ge {A : Nat → Prop} {u : va_W} (h : va_D A u) {q : Nat} (h1 : inW u q) : A q := by
  obtain ⟨i, hi⟩ := h1
  rw [List.getElem?_map] at hi
  cases hu : u[i]? with
  | none => rw [hu] at hi; cases hi
  | some x => rw [hu] at hi; have := h.2 i x hu; rw [← Option.some.inj hi]; exact this
theorem LX.JX (X : LX p s m meth c b L xs D cI cZ α β) : ∀ σ, va_D (AX cI α) (kwX cI α σ) := fun _ => vD_inW rfl X.2.2.2.2.2.2.2.left
theorem LX.JM (X : LX p s m meth c b L xs D cI cZ α β) : ∀ σ, va_D (AM cI cZ β) (kwM cI cZ β σ) := fun _ => vD_inW rfl X.2.2.2.2.2.2.2.right
theorem inW.of {ws : va_W} {k : Nat} {q : Nat × va_E} (h : ws[k]? = some q) : inW ws q.1 := ⟨k, by rw [List.getElem?_map, h]; rfl⟩
theorem l_aload_n (X : LX p s m meth c b L xs D cI cZ α β) {i j x : Nat} {kk : Fin 4} (hdg : decode cL_law pc = .ok (.aload_n kk, 1)) (hi : (kk : Nat) = i) (hj : lv[j]? = some (i, .ref x)) (h : Lw p l e s m below meth c b D cI cZ α β (pc + 1) lv (.ref x :: st) σ ρ) : Lw p l e s m below meth c b D cI cZ α β pc lv (st) σ ρ :=
  fun ls H locs hl hP hM hS => lv_aload_n X.1.1 X.1.2.1 hdg hi (lv_at hl j hj) (h ls H locs hl hP hM hS)
theorem l_iload_n (X : LX p s m meth c b L xs D cI cZ α β) {i j : Nat} {x : Int32} {kk : Fin 4} (hdg : decode cL_law pc = .ok (.iload_n kk, 1)) (hi : (kk : Nat) = i) (hj : lv[j]? = some (i, .int x)) (h : Lw p l e s m below meth c b D cI cZ α β (pc + 1) lv (.int x :: st) σ ρ) : Lw p l e s m below meth c b D cI cZ α β pc lv (st) σ ρ :=
  fun ls H locs hl hP hM hS => lv_iload_n X.1.1 X.1.2.1 hdg hi (lv_at hl j hj) (h ls H locs hl hP hM hS)
theorem l_iconst (X : LX p s m meth c b L xs D cI cZ α β) {n : Int} {v : Int32} (hdg : decode cL_law pc = .ok (.iconst n, 1)) (hv : Int32.ofInt n = v) (h : Lw p l e s m below meth c b D cI cZ α β (pc + 1) lv (.int v :: st) σ ρ) : Lw p l e s m below meth c b D cI cZ α β pc lv (st) σ ρ :=
  fun ls H locs hl hP hM hS => lv_iconst X.1.1 X.1.2.1 hdg hv (h ls H locs hl hP hM hS)
theorem l_bipush (X : LX p s m meth c b L xs D cI cZ α β) {n : Int} {v : Int32} (hdg : decode cL_law pc = .ok (.bipush n, 2)) (hv : (Int8.ofInt n).toInt32 = v) (h : Lw p l e s m below meth c b D cI cZ α β (pc + 2) lv (.int v :: st) σ ρ) : Lw p l e s m below meth c b D cI cZ α β pc lv (st) σ ρ :=
  fun ls H locs hl hP hM hS => lv_bipush X.1.1 X.1.2.1 hdg hv (h ls H locs hl hP hM hS)
theorem l_iadd (X : LX p s m meth c b L xs D cI cZ α β) {x y z : Int32} (hz : x + y = z) (hdg : decode cL_law pc = .ok (.iadd, 1)) (h : Lw p l e s m below meth c b D cI cZ α β (pc + 1) lv (.int z :: st) σ ρ) : Lw p l e s m below meth c b D cI cZ α β pc lv (.int y :: .int x :: st) σ ρ :=
  fun ls H locs hl hP hM hS => lv_iadd X.1.1 X.1.2.1 hdg (hz.symm ▸ h ls H locs hl hP hM hS)
theorem l_isub (X : LX p s m meth c b L xs D cI cZ α β) {x y : Int32} (hdg : decode cL_law pc = .ok (.isub, 1)) (h : Lw p l e s m below meth c b D cI cZ α β (pc + 1) lv (.int (x - y) :: st) σ ρ) : Lw p l e s m below meth c b D cI cZ α β pc lv (.int y :: .int x :: st) σ ρ :=
  fun ls H locs hl hP hM hS => lv_isub X.1.1 X.1.2.1 hdg (h ls H locs hl hP hM hS)
theorem l_iand (X : LX p s m meth c b L xs D cI cZ α β) {x y : Int32} (hdg : decode cL_law pc = .ok (.iand, 1)) (h : Lw p l e s m below meth c b D cI cZ α β (pc + 1) lv (.int (x &&& y) :: st) σ ρ) : Lw p l e s m below meth c b D cI cZ α β pc lv (.int y :: .int x :: st) σ ρ :=
  fun ls H locs hl hP hM hS => lv_iand X.1.1 X.1.2.1 hdg (h ls H locs hl hP hM hS)
theorem l_goto (X : LX p s m meth c b L xs D cI cZ α β) {off : Int} {tgt : Nat} (hdg : decode cL_law pc = .ok (.goto off, 3)) (ht : (pc : Int) + off = (tgt : Int)) (h : Lw p l e s m below meth c b D cI cZ α β (tgt) lv (st) σ ρ) : Lw p l e s m below meth c b D cI cZ α β pc lv (st) σ ρ :=
  fun ls H locs hl hP hM hS => lv_goto X.1.1 X.1.2.1 hdg ht (h ls H locs hl hP hM hS)
theorem l_slen (X : LX p s m meth c b L xs D cI cZ α β) (hdg : decode cL_law pc = .ok (.arraylength, 1)) (h : Lw p l e s m below meth c b D cI cZ α β (pc + 1) lv (.int (nI L) :: st) σ ρ) : Lw p l e s m below meth c b D cI cZ α β pc lv (.ref b :: st) σ ρ :=
  fun ls H locs hl hP hM hS => va_slen X.1.1 X.1.2.1 X.2.2.2.1 X.2.2.2.2.1 (Nat.not_le.mpr X.2.2.2.2.1) hS hdg (h ls H locs hl hP hM hS)
theorem l_sld (X : LX p s m meth c b L xs D cI cZ α β) {i : Int32} (hin : vp_in i L) (hdg : decode cL_law pc = .ok (.iaload, 1)) (h : Lw p l e s m below meth c b D cI cZ α β (pc + 1) lv (.int (xs i.toNatClampNeg) :: st) σ ρ) : Lw p l e s m below meth c b D cI cZ α β pc lv (.int i :: .ref b :: st) σ ρ :=
  fun ls H locs hl hP hM hS => va_sld X.1.1 X.1.2.1 X.2.2.2.1 X.2.2.2.2.1 (Nat.not_le.mpr X.2.2.2.2.1) hS hin hdg (h ls H locs hl hP hM hS)
theorem l_tabIn (X : LX p s m meth c b L xs D cI cZ α β) {dflt lo hi : Int} {offs : Array Int} {len : Nat} {x : Int32} {off : Int} {tgt : Nat} (hdg : decode cL_law pc = .ok (.tableswitch dflt lo hi offs, len)) (h1 : ¬ x.toInt < lo) (h2 : ¬ hi < x.toInt) (ho : offs[(x.toInt - lo).toNat]? = some off) (ht : (pc : Int) + off = (tgt : Int)) (h : Lw p l e s m below meth c b D cI cZ α β (tgt) lv (st) σ ρ) : Lw p l e s m below meth c b D cI cZ α β pc lv (.int x :: st) σ ρ :=
  fun ls H locs hl hP hM hS => lv_tableIn X.1.1 X.1.2.1 hdg h1 h2 ho ht (h ls H locs hl hP hM hS)
theorem l_tabOut (X : LX p s m meth c b L xs D cI cZ α β) {dflt lo hi : Int} {offs : Array Int} {len : Nat} {x : Int32} {tgt : Nat} (hdg : decode cL_law pc = .ok (.tableswitch dflt lo hi offs, len)) (h0 : x.toInt < lo ∨ hi < x.toInt) (ht : (pc : Int) + dflt = (tgt : Int)) (h : Lw p l e s m below meth c b D cI cZ α β (tgt) lv (st) σ ρ) : Lw p l e s m below meth c b D cI cZ α β pc lv (.int x :: st) σ ρ :=
  fun ls H locs hl hP hM hS => lv_tableOut X.1.1 X.1.2.1 hdg h0 ht (h ls H locs hl hP hM hS)
theorem l_eq (X : LX p s m meth c b L xs D cI cZ α β) {x : Int32} {off : Int} {tgt : Nat} (hdg : decode cL_law pc = .ok (.if_icmp .eq off, 3)) (ht : (pc : Int) + off = (tgt : Int)) (h : Lw p l e s m below meth c b D cI cZ α β (tgt) lv (st) σ ρ) : Lw p l e s m below meth c b D cI cZ α β pc lv (.int x :: .int x :: st) σ ρ :=
  fun ls H locs hl hP hM hS => lv_icmp_eq X.1.1 X.1.2.1 hdg ht (fun _ => h ls H locs hl hP hM hS) (fun q => absurd rfl q)
theorem l_gt (X : LX p s m meth c b L xs D cI cZ α β) {x y : Int32} {off : Int} {tgt : Nat} (hdg : decode cL_law pc = .ok (.if_icmp .gt off, 3)) (ht : (pc : Int) + off = (tgt : Int)) (h1 : y < x → Lw p l e s m below meth c b D cI cZ α β tgt lv st σ ρ) (h2 : ¬ y < x → Lw p l e s m below meth c b D cI cZ α β (pc + 3) lv st σ ρ) : Lw p l e s m below meth c b D cI cZ α β pc lv (.int y :: .int x :: st) σ ρ :=
  fun ls H locs hl hP hM hS => lv_icmp_gt X.1.1 X.1.2.1 hdg ht (fun q => h1 q ls H locs hl hP hM hS) (fun q => h2 q ls H locs hl hP hM hS)
theorem l_iinc (X : LX p s m meth c b L xs D cI cZ α β) {lv' : List (Nat × Value)} {i j : Nat} {n : Int} {x v : Int32} (hdg : decode cL_law pc = .ok (.iinc i n, 3)) (hj : lv[j]? = some (i, .int x)) (hv : x + Int32.ofInt n = v) (hn : i < 4) (hl9 : (i, Value.int v) :: lv.filter (fun q => !(q.1 == i) && !(q.1 + 1 == i && q.2.category == 2)) = lv') (h : Lw p l e s m below meth c b D cI cZ α β (pc + 3) lv' st σ ρ) : Lw p l e s m below meth c b D cI cZ α β pc lv st σ ρ :=
  fun ls H locs hl hP hM hS => lv_iinc X.1.1 X.1.2.1 hdg hl hj hv hn hl9 (fun ls' hl' => h ls' H locs hl' hP hM hS)
theorem l_sub (ks : List Nat) {lv' : List (Nat × Value)} (hl : lv_pick lv ks = lv') (h : Lw p l e s m below meth c b D cI cZ α β pc lv' st σ ρ) : Lw p l e s m below meth c b D cI cZ α β pc lv st σ ρ :=
  fun ls H locs hl0 hP hM hS => h ls H locs (lv_sub hl0 ks hl) hP hM hS
theorem l_end (X : LX p s m meth c b L xs D cI cZ α β) (hdg : decode cL_law pc = .ok (.ireturn, 1)) : Lw p l e s m below meth c b D cI cZ α β pc lv [.int 1] σ ρ :=
  fun ls H locs hl hP hM hS => va_forget (fun q hq => hS.2.2 q hq) (lw_ret X.1.1 X.1.2.1 X.2.2.2.2.2.2.1 X.2.2.2.2.2.1 hdg)
theorem l_after {A : Nat → Prop} {kw : KS → va_W} {stk rest : List Value} {H : Heap} {ls : Array Slot} {locs : List Loc} {r : Int32} {σ1 : KS} {ac : Array Value} {Q : State → Prop} (hA : ∀ q, A q → s.heap.size ≤ q)
    (run : va_Run p l e room_1 s m #[Value.ref b] below meth c H locs 34 25074 0 0 (F0 m pc ls stk) rest (kQ D kw A vI r σ1 ac) A) (hS : va_S (fun q : Nat => s.heap.size ≤ q) s.heap H locs)
    (h : ∀ (H1 : Heap) (locs1 : List Loc), va_P D vwCl (kw σ1) H1 → (∀ q : Nat, q < H.size → ¬ A q → H1[q]? = H[q]?) → va_S (fun q : Nat => s.heap.size ≤ q) s.heap H1 locs1 → W p l e room_1 s m #[Value.ref b] below meth c H1 locs1 34 25074 Q (F0 m (pc + 3) ls (.int r :: rest))) :
    W p l e room_1 s m #[Value.ref b] below meth c H locs 34 25074 Q (F0 m pc ls stk) := by
  intro T hT XX
  obtain ⟨v, st₀, t, T', L', h0, X', hL, e1, e2, ⟨hv, hP1, hz, hk1⟩, stp⟩ := run T hT XX
  cases hv
  rw [h0] at hz hk1
  obtain ⟨t2, a2, b2⟩ := h T'.heap (locs ++ L') (by rw [e1]; exact hP1) (fun q h1 h2 => by rw [e1]; exact hk1 q h1 h2)
    ⟨Nat.le_trans hS.1 (by rw [e1]; exact hz), fun q h1 h2 => by rw [e1, hk1 q (Nat.lt_of_lt_of_le h1 hS.1) (fun z => h2 (hA q z))]; exact hS.2.1 q h1 h2, fun q hq => by
      rcases List.mem_append.mp hq with h | h
      · exact hS.2.2 q h
      · exact hA _ (hL q h)⟩ T' rfl X'
  exact ⟨t2, stp t2 a2, b2⟩
theorem l_pre (X : LX p s m meth c b L xs D cI cZ α β) {kw : KS → va_W} {τ : KS} {H : Heap} (hP : va_P D vwCl (kw τ) H) {av : List Value} : ∀ U : State, U.heap = H → s.WarmedH U.vm → kPc D (tyA cI cZ) kw av τ av.toArray U :=
  fun U hU hW => ⟨rfl, by rw [hU]; exact hP, va_K.moved hW.alike X.2.1, nst.warm hW X.2.2.1⟩
theorem l_callX (X : LX p s m meth c b L xs D cI cZ α β) {y : MethodName} {cy : ByteArray} {nLy idx n d : Nat} {rt : Option FieldType} {As stk : List Value} {r : Int32} {σ1 : KS}
    (hM : Met l y (wsM y cy nLy rt) (rmd d) (kPc D (tyA cI cZ) (kwX cI α) (.ref (α 0) :: As) σ) (kQ D (kwX cI α) (AX cI α) vI r σ1) 0 0 (AX cI α)) (h1 : Cond.methodLink RL idx y ∈ wA) (h2 : Cond.instanceMethod y ∈ wA) (h3 : Cond.selects RX2 y y ∈ wA) (h5 : Cond.code y cy nLy rt ∈ wA)
    (hd : y.cls = RX2 ∧ y.cls ≠ "java/lang/invoke/MethodHandle" ∧ y.cls ≠ "java/lang/invoke/VarHandle" ∧ (parseMethodDescriptor y.desc).map (fun d => d.parameters.length) = some n) (hR : (rmd d).frames + 1 ≤ room_1.frames ∧ 8 + (nLy + 11) + (rmd d).locals ≤ room_1.locals)
    (hn : As.length = n) (hst : stk = As.reverse ++ .ref (α 0) :: st) (hroom : (st.map fun v => v.category).sum ≤ 8) (hdg : decode cL_law pc = .ok (.invokevirtual idx, 3))
    (h : Lw p l e s m below meth c b D cI cZ α β (pc + 3) lv (.int r :: st) σ1 ρ) : Lw p l e s m below meth c b D cI cZ α β pc lv stk σ ρ := by
  intro ls H locs hl hP hM2 hS
  refine l_after (fun q hq => inW.ge X.2.2.2.2.2.2.2.left hq) (va_runV (As := As) (rest := st) X.1 hM (cW X.1.2.2.2.2 h1 h2 h3 ii_X2 h5 hd hR) ⟨k_blind, va_recv X.2.1 hP (ci := 2) (q0 := 0) rfl rfl, l_pre X hP⟩ rfl hn hl.1 hst (lv_room hroom) hdg ⟨Nat.le_refl _, Nat.le_refl _⟩) hS (fun H1 locs1 hP1 hk1 hS1 => ?_)
  exact h ls H1 locs1 hl hP1 (hM2.kept (fun k q hk => hk1 q.1 ((hM2 k q hk).lt) (fun z => X.2.2.2.2.2.2.2.apart z (inW.of (ws := kwM cI cZ β ρ) hk)))) hS1
theorem l_callM (X : LX p s m meth c b L xs D cI cZ α β) {y : MethodName} {cy : ByteArray} {nLy idx n d : Nat} {rt : Option FieldType} {As stk : List Value} {r : Int32} {ρ1 : KS}
    (hM : Met l y (wsM y cy nLy rt) (rmd d) (kPc D (tyA cI cZ) (kwM cI cZ β) (.ref (β 0) :: As) ρ) (kQ D (kwM cI cZ β) (AM cI cZ β) vI r ρ1) 0 0 (AM cI cZ β)) (h1 : Cond.methodLink RL idx y ∈ wA) (h2 : Cond.instanceMethod y ∈ wA) (h3 : Cond.selects RX3 y y ∈ wA) (h5 : Cond.code y cy nLy rt ∈ wA)
    (hd : y.cls = RX3 ∧ y.cls ≠ "java/lang/invoke/MethodHandle" ∧ y.cls ≠ "java/lang/invoke/VarHandle" ∧ (parseMethodDescriptor y.desc).map (fun d => d.parameters.length) = some n) (hR : (rmd d).frames + 1 ≤ room_1.frames ∧ 8 + (nLy + 11) + (rmd d).locals ≤ room_1.locals)
    (hn : As.length = n) (hst : stk = As.reverse ++ .ref (β 0) :: st) (hroom : (st.map fun v => v.category).sum ≤ 8) (hdg : decode cL_law pc = .ok (.invokevirtual idx, 3))
    (h : Lw p l e s m below meth c b D cI cZ α β (pc + 3) lv (.int r :: st) σ ρ1) : Lw p l e s m below meth c b D cI cZ α β pc lv stk σ ρ := by
  intro ls H locs hl hP hM2 hS
  refine l_after (fun q hq => inW.ge X.2.2.2.2.2.2.2.right hq) (va_runV (As := As) (rest := st) X.1 hM (cW X.1.2.2.2.2 h1 h2 h3 ii_X3 h5 hd hR) ⟨k_blind, va_recv X.2.1 hM2 (ci := 3) (q0 := 0) rfl rfl, l_pre X hM2⟩ rfl hn hl.1 hst (lv_room hroom) hdg ⟨Nat.le_refl _, Nat.le_refl _⟩) hS (fun H1 locs1 hP1 hk1 hS1 => ?_)
  exact h ls H1 locs1 hl (hP.kept (fun k q hk => hk1 q.1 ((hP k q hk).lt) (fun z => X.2.2.2.2.2.2.2.apart (inW.of (ws := kwX cI α σ) hk) z))) hP1 hS1
end LWR
set_option maxHeartbeats 8000000 in
set_option maxRecDepth 100000 in
theorem law_loop {Rel : KS → KS → Prop} (hsim : Sim Rel) (l : Launch) {p : Program} {e : Env} {s : State} {m : MethodId} {below : List Frame} {meth : Method} {c : Code} {b L : Nat} {xs : Nat → Int32} {D : va_G} {cI cZ : ClassId} {α β : Nat → Nat} (hL : L ≤ 2048) (X : LX p s m meth c b L xs D cI cZ α β) :
    ∀ (n i : Nat), i ≤ L → L + 1 ≤ i + n → ∀ (σ ρ : KS), Rel σ ρ → Lw p l e s m below meth c b D cI cZ α β 18 [(0, .ref b), (1, .ref (α 0)), (2, .ref (β 0)), (3, .int (nI i))] [] σ ρ := by
  intro n
  induction n with
  | zero => intro i h1 h2; exact absurd h2 (by omega)
  | succ n ih =>
    intro i hi hin σ ρ hR
    refine l_iload_n X (j := 3) dL_law_18 rfl rfl ?_
    refine l_aload_n X (j := 0) dL_law_19 rfl rfl ?_
    refine l_slen X dL_law_20 ?_
    refine l_iconst X (v := 4) dL_law_21 (by decide) ?_
    refine l_isub X dL_law_22 ?_
    have hT : (nI L - 4).toInt = (L : Int) - 4 := pk_sub_toInt (a := L) (b := 4) (by omega) (by decide)
    have hI : (nI i).toInt = (i : Int) := nI_toInt (by omega)
    refine l_gt X (tgt := 600) dL_law_23 (by decide) (fun _ => ?_) (fun hle => ?_)
    · refine l_iconst X (v := 1) dL_law_600 (by decide) ?_
      exact l_end X dL_law_601
    have hle2 : i + 4 ≤ L := by
      rw [Int32.lt_iff_toInt_lt, hT, hI] at hle
      omega
    have hnext : ∀ (σ ρ : KS), Rel σ ρ → Lw p l e s m below meth c b D cI cZ α β 594 [(0, .ref b), (1, .ref (α 0)), (2, .ref (β 0)), (3, .int (nI i))] [] σ ρ := by
      intro σ ρ hR
      refine l_iinc X (j := 3) (v := nI (i + 4)) (lv' := [(3, .int (nI (i + 4))), (0, .ref b), (1, .ref (α 0)), (2, .ref (β 0))]) dL_law_594 rfl (nI_add i 4) (by decide) rfl ?_
      refine l_goto X (tgt := 18) dL_law_597 (by decide) ?_
      refine l_sub (lv' := [(0, .ref b), (1, .ref (α 0)), (2, .ref (β 0)), (3, .int (nI (i + 4)))]) [1, 2, 3, 0] rfl ?_
      exact ih (i + 4) hle2 (by omega) σ ρ hR
    refine l_aload_n X (j := 0) dL_law_26 rfl rfl ?_
    refine l_iload_n X (j := 3) dL_law_27 rfl rfl ?_
    refine l_sld X (vp_in_nI (by omega) (by omega)) dL_law_28 ?_
    refine l_bipush X (v := 31) dL_law_29 (by decide) ?_
    refine l_iand X dL_law_31 ?_
    by_cases hs0 : xs (nI i).toNatClampNeg &&& 31 = 0
    · refine l_tabIn X (off := 88) (tgt := 120) dL_law_32 (by rw [hs0]; decide) (by rw [hs0]; decide) (by rw [hs0]; decide) (by decide) ?_
      obtain ⟨r, σ1, ρ1, e1, e2, hR1⟩ := hsim.1 σ ρ hR
      refine l_aload_n X (j := 1) dL_law_120 rfl rfl ?_
      refine l_callX X (n := 0) (As := []) (st := []) (c_X2_spawn l D cI cZ α (AX cI α) X.JX σ r _ e1) ml_L_13 im_X2_spawn se_X2_spawn co_X2_spawn (by decide +kernel) ⟨Nat.le_of_ble_eq_true rfl, Nat.le_of_ble_eq_true rfl⟩ rfl rfl (Nat.le_of_ble_eq_true rfl) dL_law_121 ?_
      refine l_aload_n X (j := 2) dL_law_124 rfl rfl ?_
      refine l_callM X (n := 0) (As := []) (st := [.int r]) (c_X3_spawn l D cI cZ β (AM cI cZ β) X.JM ρ r _ e2) ml_L_17 im_X3_spawn se_X3_spawn co_X3_spawn (by decide +kernel) ⟨Nat.le_of_ble_eq_true rfl, Nat.le_of_ble_eq_true rfl⟩ rfl rfl (Nat.le_of_ble_eq_true rfl) dL_law_125 ?_
      refine l_eq X (tgt := 594) dL_law_128 (by decide) ?_
      exact hnext σ1 ρ1 hR1
    by_cases hs1 : xs (nI i).toNatClampNeg &&& 31 = 1
    · refine l_tabIn X (off := 101) (tgt := 133) dL_law_32 (by rw [hs1]; decide) (by rw [hs1]; decide) (by rw [hs1]; decide) (by decide) ?_
      obtain ⟨r, σ1, ρ1, e1, e2, hR1⟩ := hsim.2.1 (xs (nI (i + 1)).toNatClampNeg) σ ρ hR
      refine l_aload_n X (j := 1) dL_law_133 rfl rfl ?_
      refine l_aload_n X (j := 0) dL_law_134 rfl rfl ?_
      refine l_iload_n X (j := 3) dL_law_135 rfl rfl ?_
      refine l_iconst X (v := 1) dL_law_136 (by decide) ?_
      refine l_iadd X (z := nI (i + 1)) (nI_add i 1) dL_law_137 ?_
      refine l_sld X (vp_in_nI (by omega) (by omega)) dL_law_138 ?_
      refine l_callX X (n := 1) (As := [.int (xs (nI (i + 1)).toNatClampNeg)]) (st := []) (c_X2_fork l D cI cZ α (AX cI α) X.JX (xs (nI (i + 1)).toNatClampNeg) σ r _ e1) ml_L_18 im_X2_fork se_X2_fork co_X2_fork (by decide +kernel) ⟨Nat.le_of_ble_eq_true rfl, Nat.le_of_ble_eq_true rfl⟩ rfl rfl (Nat.le_of_ble_eq_true rfl) dL_law_139 ?_
      refine l_aload_n X (j := 2) dL_law_142 rfl rfl ?_
      refine l_aload_n X (j := 0) dL_law_143 rfl rfl ?_
      refine l_iload_n X (j := 3) dL_law_144 rfl rfl ?_
      refine l_iconst X (v := 1) dL_law_145 (by decide) ?_
      refine l_iadd X (z := nI (i + 1)) (nI_add i 1) dL_law_146 ?_
      refine l_sld X (vp_in_nI (by omega) (by omega)) dL_law_147 ?_
      refine l_callM X (n := 1) (As := [.int (xs (nI (i + 1)).toNatClampNeg)]) (st := [.int r]) (c_X3_fork l D cI cZ β (AM cI cZ β) X.JM (xs (nI (i + 1)).toNatClampNeg) ρ r _ e2) ml_L_22 im_X3_fork se_X3_fork co_X3_fork (by decide +kernel) ⟨Nat.le_of_ble_eq_true rfl, Nat.le_of_ble_eq_true rfl⟩ rfl rfl (Nat.le_of_ble_eq_true rfl) dL_law_148 ?_
      refine l_eq X (tgt := 594) dL_law_151 (by decide) ?_
      exact hnext σ1 ρ1 hR1
    by_cases hs2 : xs (nI i).toNatClampNeg &&& 31 = 2
    · refine l_tabIn X (off := 124) (tgt := 156) dL_law_32 (by rw [hs2]; decide) (by rw [hs2]; decide) (by rw [hs2]; decide) (by decide) ?_
      obtain ⟨r, σ1, ρ1, e1, e2, hR1⟩ := hsim.2.2.1 (xs (nI (i + 1)).toNatClampNeg) (xs (nI (i + 2)).toNatClampNeg) σ ρ hR
      refine l_aload_n X (j := 1) dL_law_156 rfl rfl ?_
      refine l_aload_n X (j := 0) dL_law_157 rfl rfl ?_
      refine l_iload_n X (j := 3) dL_law_158 rfl rfl ?_
      refine l_iconst X (v := 1) dL_law_159 (by decide) ?_
      refine l_iadd X (z := nI (i + 1)) (nI_add i 1) dL_law_160 ?_
      refine l_sld X (vp_in_nI (by omega) (by omega)) dL_law_161 ?_
      refine l_aload_n X (j := 0) dL_law_162 rfl rfl ?_
      refine l_iload_n X (j := 3) dL_law_163 rfl rfl ?_
      refine l_iconst X (v := 2) dL_law_164 (by decide) ?_
      refine l_iadd X (z := nI (i + 2)) (nI_add i 2) dL_law_165 ?_
      refine l_sld X (vp_in_nI (by omega) (by omega)) dL_law_166 ?_
      refine l_callX X (n := 2) (As := [.int (xs (nI (i + 1)).toNatClampNeg), .int (xs (nI (i + 2)).toNatClampNeg)]) (st := []) (c_X2_grow l D cI cZ α (AX cI α) X.JX (xs (nI (i + 1)).toNatClampNeg) (xs (nI (i + 2)).toNatClampNeg) σ r _ e1) ml_L_23 im_X2_grow se_X2_grow co_X2_grow (by decide +kernel) ⟨Nat.le_of_ble_eq_true rfl, Nat.le_of_ble_eq_true rfl⟩ rfl rfl (Nat.le_of_ble_eq_true rfl) dL_law_167 ?_
      refine l_aload_n X (j := 2) dL_law_170 rfl rfl ?_
      refine l_aload_n X (j := 0) dL_law_171 rfl rfl ?_
      refine l_iload_n X (j := 3) dL_law_172 rfl rfl ?_
      refine l_iconst X (v := 1) dL_law_173 (by decide) ?_
      refine l_iadd X (z := nI (i + 1)) (nI_add i 1) dL_law_174 ?_
      refine l_sld X (vp_in_nI (by omega) (by omega)) dL_law_175 ?_
      refine l_aload_n X (j := 0) dL_law_176 rfl rfl ?_
      refine l_iload_n X (j := 3) dL_law_177 rfl rfl ?_
      refine l_iconst X (v := 2) dL_law_178 (by decide) ?_
      refine l_iadd X (z := nI (i + 2)) (nI_add i 2) dL_law_179 ?_
      refine l_sld X (vp_in_nI (by omega) (by omega)) dL_law_180 ?_
      refine l_callM X (n := 2) (As := [.int (xs (nI (i + 1)).toNatClampNeg), .int (xs (nI (i + 2)).toNatClampNeg)]) (st := [.int r]) (c_X3_grow l D cI cZ β (AM cI cZ β) X.JM (xs (nI (i + 1)).toNatClampNeg) (xs (nI (i + 2)).toNatClampNeg) ρ r _ e2) ml_L_27 im_X3_grow se_X3_grow co_X3_grow (by decide +kernel) ⟨Nat.le_of_ble_eq_true rfl, Nat.le_of_ble_eq_true rfl⟩ rfl rfl (Nat.le_of_ble_eq_true rfl) dL_law_181 ?_
      refine l_eq X (tgt := 594) dL_law_184 (by decide) ?_
      exact hnext σ1 ρ1 hR1
    by_cases hs3 : xs (nI i).toNatClampNeg &&& 31 = 3
    · refine l_tabIn X (off := 157) (tgt := 189) dL_law_32 (by rw [hs3]; decide) (by rw [hs3]; decide) (by rw [hs3]; decide) (by decide) ?_
      obtain ⟨r, σ1, ρ1, e1, e2, hR1⟩ := hsim.2.2.2.1 (xs (nI (i + 1)).toNatClampNeg) (xs (nI (i + 2)).toNatClampNeg) σ ρ hR
      refine l_aload_n X (j := 1) dL_law_189 rfl rfl ?_
      refine l_aload_n X (j := 0) dL_law_190 rfl rfl ?_
      refine l_iload_n X (j := 3) dL_law_191 rfl rfl ?_
      refine l_iconst X (v := 1) dL_law_192 (by decide) ?_
      refine l_iadd X (z := nI (i + 1)) (nI_add i 1) dL_law_193 ?_
      refine l_sld X (vp_in_nI (by omega) (by omega)) dL_law_194 ?_
      refine l_aload_n X (j := 0) dL_law_195 rfl rfl ?_
      refine l_iload_n X (j := 3) dL_law_196 rfl rfl ?_
      refine l_iconst X (v := 2) dL_law_197 (by decide) ?_
      refine l_iadd X (z := nI (i + 2)) (nI_add i 2) dL_law_198 ?_
      refine l_sld X (vp_in_nI (by omega) (by omega)) dL_law_199 ?_
      refine l_callX X (n := 2) (As := [.int (xs (nI (i + 1)).toNatClampNeg), .int (xs (nI (i + 2)).toNatClampNeg)]) (st := []) (c_X2_load l D cI cZ α (AX cI α) X.JX (xs (nI (i + 1)).toNatClampNeg) (xs (nI (i + 2)).toNatClampNeg) σ r _ e1) ml_L_28 im_X2_load se_X2_load co_X2_load (by decide +kernel) ⟨Nat.le_of_ble_eq_true rfl, Nat.le_of_ble_eq_true rfl⟩ rfl rfl (Nat.le_of_ble_eq_true rfl) dL_law_200 ?_
      refine l_aload_n X (j := 2) dL_law_203 rfl rfl ?_
      refine l_aload_n X (j := 0) dL_law_204 rfl rfl ?_
      refine l_iload_n X (j := 3) dL_law_205 rfl rfl ?_
      refine l_iconst X (v := 1) dL_law_206 (by decide) ?_
      refine l_iadd X (z := nI (i + 1)) (nI_add i 1) dL_law_207 ?_
      refine l_sld X (vp_in_nI (by omega) (by omega)) dL_law_208 ?_
      refine l_aload_n X (j := 0) dL_law_209 rfl rfl ?_
      refine l_iload_n X (j := 3) dL_law_210 rfl rfl ?_
      refine l_iconst X (v := 2) dL_law_211 (by decide) ?_
      refine l_iadd X (z := nI (i + 2)) (nI_add i 2) dL_law_212 ?_
      refine l_sld X (vp_in_nI (by omega) (by omega)) dL_law_213 ?_
      refine l_callM X (n := 2) (As := [.int (xs (nI (i + 1)).toNatClampNeg), .int (xs (nI (i + 2)).toNatClampNeg)]) (st := [.int r]) (c_X3_load l D cI cZ β (AM cI cZ β) X.JM (xs (nI (i + 1)).toNatClampNeg) (xs (nI (i + 2)).toNatClampNeg) ρ r _ e2) ml_L_31 im_X3_load se_X3_load co_X3_load (by decide +kernel) ⟨Nat.le_of_ble_eq_true rfl, Nat.le_of_ble_eq_true rfl⟩ rfl rfl (Nat.le_of_ble_eq_true rfl) dL_law_214 ?_
      refine l_eq X (tgt := 594) dL_law_217 (by decide) ?_
      exact hnext σ1 ρ1 hR1
    by_cases hs4 : xs (nI i).toNatClampNeg &&& 31 = 4
    · refine l_tabIn X (off := 190) (tgt := 222) dL_law_32 (by rw [hs4]; decide) (by rw [hs4]; decide) (by rw [hs4]; decide) (by decide) ?_
      obtain ⟨r, σ1, ρ1, e1, e2, hR1⟩ := hsim.2.2.2.2.1 (xs (nI (i + 1)).toNatClampNeg) (xs (nI (i + 2)).toNatClampNeg) σ ρ hR
      refine l_aload_n X (j := 1) dL_law_222 rfl rfl ?_
      refine l_aload_n X (j := 0) dL_law_223 rfl rfl ?_
      refine l_iload_n X (j := 3) dL_law_224 rfl rfl ?_
      refine l_iconst X (v := 1) dL_law_225 (by decide) ?_
      refine l_iadd X (z := nI (i + 1)) (nI_add i 1) dL_law_226 ?_
      refine l_sld X (vp_in_nI (by omega) (by omega)) dL_law_227 ?_
      refine l_aload_n X (j := 0) dL_law_228 rfl rfl ?_
      refine l_iload_n X (j := 3) dL_law_229 rfl rfl ?_
      refine l_iconst X (v := 2) dL_law_230 (by decide) ?_
      refine l_iadd X (z := nI (i + 2)) (nI_add i 2) dL_law_231 ?_
      refine l_sld X (vp_in_nI (by omega) (by omega)) dL_law_232 ?_
      refine l_callX X (n := 2) (As := [.int (xs (nI (i + 1)).toNatClampNeg), .int (xs (nI (i + 2)).toNatClampNeg)]) (st := []) (c_X2_has l D cI cZ α (AX cI α) X.JX (xs (nI (i + 1)).toNatClampNeg) (xs (nI (i + 2)).toNatClampNeg) σ r _ e1) ml_L_32 im_X2_has se_X2_has co_X2_has (by decide +kernel) ⟨Nat.le_of_ble_eq_true rfl, Nat.le_of_ble_eq_true rfl⟩ rfl rfl (Nat.le_of_ble_eq_true rfl) dL_law_233 ?_
      refine l_aload_n X (j := 2) dL_law_236 rfl rfl ?_
      refine l_aload_n X (j := 0) dL_law_237 rfl rfl ?_
      refine l_iload_n X (j := 3) dL_law_238 rfl rfl ?_
      refine l_iconst X (v := 1) dL_law_239 (by decide) ?_
      refine l_iadd X (z := nI (i + 1)) (nI_add i 1) dL_law_240 ?_
      refine l_sld X (vp_in_nI (by omega) (by omega)) dL_law_241 ?_
      refine l_aload_n X (j := 0) dL_law_242 rfl rfl ?_
      refine l_iload_n X (j := 3) dL_law_243 rfl rfl ?_
      refine l_iconst X (v := 2) dL_law_244 (by decide) ?_
      refine l_iadd X (z := nI (i + 2)) (nI_add i 2) dL_law_245 ?_
      refine l_sld X (vp_in_nI (by omega) (by omega)) dL_law_246 ?_
      refine l_callM X (n := 2) (As := [.int (xs (nI (i + 1)).toNatClampNeg), .int (xs (nI (i + 2)).toNatClampNeg)]) (st := [.int r]) (c_X3_has l D cI cZ β (AM cI cZ β) X.JM (xs (nI (i + 1)).toNatClampNeg) (xs (nI (i + 2)).toNatClampNeg) ρ r _ e2) ml_L_36 im_X3_has se_X3_has co_X3_has (by decide +kernel) ⟨Nat.le_of_ble_eq_true rfl, Nat.le_of_ble_eq_true rfl⟩ rfl rfl (Nat.le_of_ble_eq_true rfl) dL_law_247 ?_
      refine l_eq X (tgt := 594) dL_law_250 (by decide) ?_
      exact hnext σ1 ρ1 hR1
    by_cases hs5 : xs (nI i).toNatClampNeg &&& 31 = 5
    · refine l_tabIn X (off := 223) (tgt := 255) dL_law_32 (by rw [hs5]; decide) (by rw [hs5]; decide) (by rw [hs5]; decide) (by decide) ?_
      obtain ⟨r, σ1, ρ1, e1, e2, hR1⟩ := hsim.2.2.2.2.2.1 (xs (nI (i + 1)).toNatClampNeg) (xs (nI (i + 2)).toNatClampNeg) (xs (nI (i + 3)).toNatClampNeg) σ ρ hR
      refine l_aload_n X (j := 1) dL_law_255 rfl rfl ?_
      refine l_aload_n X (j := 0) dL_law_256 rfl rfl ?_
      refine l_iload_n X (j := 3) dL_law_257 rfl rfl ?_
      refine l_iconst X (v := 1) dL_law_258 (by decide) ?_
      refine l_iadd X (z := nI (i + 1)) (nI_add i 1) dL_law_259 ?_
      refine l_sld X (vp_in_nI (by omega) (by omega)) dL_law_260 ?_
      refine l_aload_n X (j := 0) dL_law_261 rfl rfl ?_
      refine l_iload_n X (j := 3) dL_law_262 rfl rfl ?_
      refine l_iconst X (v := 2) dL_law_263 (by decide) ?_
      refine l_iadd X (z := nI (i + 2)) (nI_add i 2) dL_law_264 ?_
      refine l_sld X (vp_in_nI (by omega) (by omega)) dL_law_265 ?_
      refine l_aload_n X (j := 0) dL_law_266 rfl rfl ?_
      refine l_iload_n X (j := 3) dL_law_267 rfl rfl ?_
      refine l_iconst X (v := 3) dL_law_268 (by decide) ?_
      refine l_iadd X (z := nI (i + 3)) (nI_add i 3) dL_law_269 ?_
      refine l_sld X (vp_in_nI (by omega) (by omega)) dL_law_270 ?_
      refine l_callX X (n := 3) (As := [.int (xs (nI (i + 1)).toNatClampNeg), .int (xs (nI (i + 2)).toNatClampNeg), .int (xs (nI (i + 3)).toNatClampNeg)]) (st := []) (c_X2_store l D cI cZ α (AX cI α) X.JX (xs (nI (i + 1)).toNatClampNeg) (xs (nI (i + 2)).toNatClampNeg) (xs (nI (i + 3)).toNatClampNeg) σ r _ e1) ml_L_37 im_X2_store se_X2_store co_X2_store (by decide +kernel) ⟨Nat.le_of_ble_eq_true rfl, Nat.le_of_ble_eq_true rfl⟩ rfl rfl (Nat.le_of_ble_eq_true rfl) dL_law_271 ?_
      refine l_aload_n X (j := 2) dL_law_274 rfl rfl ?_
      refine l_aload_n X (j := 0) dL_law_275 rfl rfl ?_
      refine l_iload_n X (j := 3) dL_law_276 rfl rfl ?_
      refine l_iconst X (v := 1) dL_law_277 (by decide) ?_
      refine l_iadd X (z := nI (i + 1)) (nI_add i 1) dL_law_278 ?_
      refine l_sld X (vp_in_nI (by omega) (by omega)) dL_law_279 ?_
      refine l_aload_n X (j := 0) dL_law_280 rfl rfl ?_
      refine l_iload_n X (j := 3) dL_law_281 rfl rfl ?_
      refine l_iconst X (v := 2) dL_law_282 (by decide) ?_
      refine l_iadd X (z := nI (i + 2)) (nI_add i 2) dL_law_283 ?_
      refine l_sld X (vp_in_nI (by omega) (by omega)) dL_law_284 ?_
      refine l_aload_n X (j := 0) dL_law_285 rfl rfl ?_
      refine l_iload_n X (j := 3) dL_law_286 rfl rfl ?_
      refine l_iconst X (v := 3) dL_law_287 (by decide) ?_
      refine l_iadd X (z := nI (i + 3)) (nI_add i 3) dL_law_288 ?_
      refine l_sld X (vp_in_nI (by omega) (by omega)) dL_law_289 ?_
      refine l_callM X (n := 3) (As := [.int (xs (nI (i + 1)).toNatClampNeg), .int (xs (nI (i + 2)).toNatClampNeg), .int (xs (nI (i + 3)).toNatClampNeg)]) (st := [.int r]) (c_X3_store l D cI cZ β (AM cI cZ β) X.JM (xs (nI (i + 1)).toNatClampNeg) (xs (nI (i + 2)).toNatClampNeg) (xs (nI (i + 3)).toNatClampNeg) ρ r _ e2) ml_L_41 im_X3_store se_X3_store co_X3_store (by decide +kernel) ⟨Nat.le_of_ble_eq_true rfl, Nat.le_of_ble_eq_true rfl⟩ rfl rfl (Nat.le_of_ble_eq_true rfl) dL_law_290 ?_
      refine l_eq X (tgt := 594) dL_law_293 (by decide) ?_
      exact hnext σ1 ρ1 hR1
    by_cases hs6 : xs (nI i).toNatClampNeg &&& 31 = 6
    · refine l_tabIn X (off := 266) (tgt := 298) dL_law_32 (by rw [hs6]; decide) (by rw [hs6]; decide) (by rw [hs6]; decide) (by decide) ?_
      obtain ⟨r, σ1, ρ1, e1, e2, hR1⟩ := hsim.2.2.2.2.2.2.1 (xs (nI (i + 1)).toNatClampNeg) (xs (nI (i + 2)).toNatClampNeg) σ ρ hR
      refine l_aload_n X (j := 1) dL_law_298 rfl rfl ?_
      refine l_aload_n X (j := 0) dL_law_299 rfl rfl ?_
      refine l_iload_n X (j := 3) dL_law_300 rfl rfl ?_
      refine l_iconst X (v := 1) dL_law_301 (by decide) ?_
      refine l_iadd X (z := nI (i + 1)) (nI_add i 1) dL_law_302 ?_
      refine l_sld X (vp_in_nI (by omega) (by omega)) dL_law_303 ?_
      refine l_aload_n X (j := 0) dL_law_304 rfl rfl ?_
      refine l_iload_n X (j := 3) dL_law_305 rfl rfl ?_
      refine l_iconst X (v := 2) dL_law_306 (by decide) ?_
      refine l_iadd X (z := nI (i + 2)) (nI_add i 2) dL_law_307 ?_
      refine l_sld X (vp_in_nI (by omega) (by omega)) dL_law_308 ?_
      refine l_callX X (n := 2) (As := [.int (xs (nI (i + 1)).toNatClampNeg), .int (xs (nI (i + 2)).toNatClampNeg)]) (st := []) (c_X2_exit l D cI cZ α (AX cI α) X.JX (xs (nI (i + 1)).toNatClampNeg) (xs (nI (i + 2)).toNatClampNeg) σ r _ e1) ml_L_42 im_X2_exit se_X2_exit co_X2_exit (by decide +kernel) ⟨Nat.le_of_ble_eq_true rfl, Nat.le_of_ble_eq_true rfl⟩ rfl rfl (Nat.le_of_ble_eq_true rfl) dL_law_309 ?_
      refine l_aload_n X (j := 2) dL_law_312 rfl rfl ?_
      refine l_aload_n X (j := 0) dL_law_313 rfl rfl ?_
      refine l_iload_n X (j := 3) dL_law_314 rfl rfl ?_
      refine l_iconst X (v := 1) dL_law_315 (by decide) ?_
      refine l_iadd X (z := nI (i + 1)) (nI_add i 1) dL_law_316 ?_
      refine l_sld X (vp_in_nI (by omega) (by omega)) dL_law_317 ?_
      refine l_aload_n X (j := 0) dL_law_318 rfl rfl ?_
      refine l_iload_n X (j := 3) dL_law_319 rfl rfl ?_
      refine l_iconst X (v := 2) dL_law_320 (by decide) ?_
      refine l_iadd X (z := nI (i + 2)) (nI_add i 2) dL_law_321 ?_
      refine l_sld X (vp_in_nI (by omega) (by omega)) dL_law_322 ?_
      refine l_callM X (n := 2) (As := [.int (xs (nI (i + 1)).toNatClampNeg), .int (xs (nI (i + 2)).toNatClampNeg)]) (st := [.int r]) (c_X3_exit l D cI cZ β (AM cI cZ β) X.JM (xs (nI (i + 1)).toNatClampNeg) (xs (nI (i + 2)).toNatClampNeg) ρ r _ e2) ml_L_45 im_X3_exit se_X3_exit co_X3_exit (by decide +kernel) ⟨Nat.le_of_ble_eq_true rfl, Nat.le_of_ble_eq_true rfl⟩ rfl rfl (Nat.le_of_ble_eq_true rfl) dL_law_323 ?_
      refine l_eq X (tgt := 594) dL_law_326 (by decide) ?_
      exact hnext σ1 ρ1 hR1
    by_cases hs7 : xs (nI i).toNatClampNeg &&& 31 = 7
    · refine l_tabIn X (off := 299) (tgt := 331) dL_law_32 (by rw [hs7]; decide) (by rw [hs7]; decide) (by rw [hs7]; decide) (by decide) ?_
      obtain ⟨r, σ1, ρ1, e1, e2, hR1⟩ := hsim.2.2.2.2.2.2.2.1 (xs (nI (i + 1)).toNatClampNeg) σ ρ hR
      refine l_aload_n X (j := 1) dL_law_331 rfl rfl ?_
      refine l_aload_n X (j := 0) dL_law_332 rfl rfl ?_
      refine l_iload_n X (j := 3) dL_law_333 rfl rfl ?_
      refine l_iconst X (v := 1) dL_law_334 (by decide) ?_
      refine l_iadd X (z := nI (i + 1)) (nI_add i 1) dL_law_335 ?_
      refine l_sld X (vp_in_nI (by omega) (by omega)) dL_law_336 ?_
      refine l_callX X (n := 1) (As := [.int (xs (nI (i + 1)).toNatClampNeg)]) (st := []) (c_X2_reap l D cI cZ α (AX cI α) X.JX (xs (nI (i + 1)).toNatClampNeg) σ r _ e1) ml_L_46 im_X2_reap se_X2_reap co_X2_reap (by decide +kernel) ⟨Nat.le_of_ble_eq_true rfl, Nat.le_of_ble_eq_true rfl⟩ rfl rfl (Nat.le_of_ble_eq_true rfl) dL_law_337 ?_
      refine l_aload_n X (j := 2) dL_law_340 rfl rfl ?_
      refine l_aload_n X (j := 0) dL_law_341 rfl rfl ?_
      refine l_iload_n X (j := 3) dL_law_342 rfl rfl ?_
      refine l_iconst X (v := 1) dL_law_343 (by decide) ?_
      refine l_iadd X (z := nI (i + 1)) (nI_add i 1) dL_law_344 ?_
      refine l_sld X (vp_in_nI (by omega) (by omega)) dL_law_345 ?_
      refine l_callM X (n := 1) (As := [.int (xs (nI (i + 1)).toNatClampNeg)]) (st := [.int r]) (c_X3_reap l D cI cZ β (AM cI cZ β) X.JM (xs (nI (i + 1)).toNatClampNeg) ρ r _ e2) ml_L_49 im_X3_reap se_X3_reap co_X3_reap (by decide +kernel) ⟨Nat.le_of_ble_eq_true rfl, Nat.le_of_ble_eq_true rfl⟩ rfl rfl (Nat.le_of_ble_eq_true rfl) dL_law_346 ?_
      refine l_eq X (tgt := 594) dL_law_349 (by decide) ?_
      exact hnext σ1 ρ1 hR1
    by_cases hs8 : xs (nI i).toNatClampNeg &&& 31 = 8
    · refine l_tabIn X (off := 322) (tgt := 354) dL_law_32 (by rw [hs8]; decide) (by rw [hs8]; decide) (by rw [hs8]; decide) (by decide) ?_
      obtain ⟨r, σ1, ρ1, e1, e2, hR1⟩ := hsim.2.2.2.2.2.2.2.2.1 σ ρ hR
      refine l_aload_n X (j := 1) dL_law_354 rfl rfl ?_
      refine l_callX X (n := 0) (As := []) (st := []) (c_X2_tick l D cI cZ α (AX cI α) X.JX σ r _ e1) ml_L_50 im_X2_tick se_X2_tick co_X2_tick (by decide +kernel) ⟨Nat.le_of_ble_eq_true rfl, Nat.le_of_ble_eq_true rfl⟩ rfl rfl (Nat.le_of_ble_eq_true rfl) dL_law_355 ?_
      refine l_aload_n X (j := 2) dL_law_358 rfl rfl ?_
      refine l_callM X (n := 0) (As := []) (st := [.int r]) (c_X3_tick l D cI cZ β (AM cI cZ β) X.JM ρ r _ e2) ml_L_53 im_X3_tick se_X3_tick co_X3_tick (by decide +kernel) ⟨Nat.le_of_ble_eq_true rfl, Nat.le_of_ble_eq_true rfl⟩ rfl rfl (Nat.le_of_ble_eq_true rfl) dL_law_359 ?_
      refine l_eq X (tgt := 594) dL_law_362 (by decide) ?_
      exact hnext σ1 ρ1 hR1
    by_cases hs9 : xs (nI i).toNatClampNeg &&& 31 = 9
    · refine l_tabIn X (off := 335) (tgt := 367) dL_law_32 (by rw [hs9]; decide) (by rw [hs9]; decide) (by rw [hs9]; decide) (by decide) ?_
      obtain ⟨r, σ1, ρ1, e1, e2, hR1⟩ := hsim.2.2.2.2.2.2.2.2.2.1 σ ρ hR
      refine l_aload_n X (j := 1) dL_law_367 rfl rfl ?_
      refine l_callX X (n := 0) (As := []) (st := []) (c_X2_current l D cI cZ α (AX cI α) X.JX σ r _ e1) ml_L_54 im_X2_current se_X2_current co_X2_current (by decide +kernel) ⟨Nat.le_of_ble_eq_true rfl, Nat.le_of_ble_eq_true rfl⟩ rfl rfl (Nat.le_of_ble_eq_true rfl) dL_law_368 ?_
      refine l_aload_n X (j := 2) dL_law_371 rfl rfl ?_
      refine l_callM X (n := 0) (As := []) (st := [.int r]) (c_X3_current l D cI cZ β (AM cI cZ β) X.JM ρ r _ e2) ml_L_57 im_X3_current se_X3_current co_X3_current (by decide +kernel) ⟨Nat.le_of_ble_eq_true rfl, Nat.le_of_ble_eq_true rfl⟩ rfl rfl (Nat.le_of_ble_eq_true rfl) dL_law_372 ?_
      refine l_eq X (tgt := 594) dL_law_375 (by decide) ?_
      exact hnext σ1 ρ1 hR1
    by_cases hs10 : xs (nI i).toNatClampNeg &&& 31 = 10
    · refine l_tabIn X (off := 348) (tgt := 380) dL_law_32 (by rw [hs10]; decide) (by rw [hs10]; decide) (by rw [hs10]; decide) (by decide) ?_
      obtain ⟨r, σ1, ρ1, e1, e2, hR1⟩ := hsim.2.2.2.2.2.2.2.2.2.2.1 (xs (nI (i + 1)).toNatClampNeg) σ ρ hR
      refine l_aload_n X (j := 1) dL_law_380 rfl rfl ?_
      refine l_aload_n X (j := 0) dL_law_381 rfl rfl ?_
      refine l_iload_n X (j := 3) dL_law_382 rfl rfl ?_
      refine l_iconst X (v := 1) dL_law_383 (by decide) ?_
      refine l_iadd X (z := nI (i + 1)) (nI_add i 1) dL_law_384 ?_
      refine l_sld X (vp_in_nI (by omega) (by omega)) dL_law_385 ?_
      refine l_callX X (n := 1) (As := [.int (xs (nI (i + 1)).toNatClampNeg)]) (st := []) (c_X2_block l D cI cZ α (AX cI α) X.JX (xs (nI (i + 1)).toNatClampNeg) σ r _ e1) ml_L_58 im_X2_block se_X2_block co_X2_block (by decide +kernel) ⟨Nat.le_of_ble_eq_true rfl, Nat.le_of_ble_eq_true rfl⟩ rfl rfl (Nat.le_of_ble_eq_true rfl) dL_law_386 ?_
      refine l_aload_n X (j := 2) dL_law_389 rfl rfl ?_
      refine l_aload_n X (j := 0) dL_law_390 rfl rfl ?_
      refine l_iload_n X (j := 3) dL_law_391 rfl rfl ?_
      refine l_iconst X (v := 1) dL_law_392 (by decide) ?_
      refine l_iadd X (z := nI (i + 1)) (nI_add i 1) dL_law_393 ?_
      refine l_sld X (vp_in_nI (by omega) (by omega)) dL_law_394 ?_
      refine l_callM X (n := 1) (As := [.int (xs (nI (i + 1)).toNatClampNeg)]) (st := [.int r]) (c_X3_block l D cI cZ β (AM cI cZ β) X.JM (xs (nI (i + 1)).toNatClampNeg) ρ r _ e2) ml_L_61 im_X3_block se_X3_block co_X3_block (by decide +kernel) ⟨Nat.le_of_ble_eq_true rfl, Nat.le_of_ble_eq_true rfl⟩ rfl rfl (Nat.le_of_ble_eq_true rfl) dL_law_395 ?_
      refine l_eq X (tgt := 594) dL_law_398 (by decide) ?_
      exact hnext σ1 ρ1 hR1
    by_cases hs11 : xs (nI i).toNatClampNeg &&& 31 = 11
    · refine l_tabIn X (off := 371) (tgt := 403) dL_law_32 (by rw [hs11]; decide) (by rw [hs11]; decide) (by rw [hs11]; decide) (by decide) ?_
      obtain ⟨r, σ1, ρ1, e1, e2, hR1⟩ := hsim.2.2.2.2.2.2.2.2.2.2.2.1 (xs (nI (i + 1)).toNatClampNeg) σ ρ hR
      refine l_aload_n X (j := 1) dL_law_403 rfl rfl ?_
      refine l_aload_n X (j := 0) dL_law_404 rfl rfl ?_
      refine l_iload_n X (j := 3) dL_law_405 rfl rfl ?_
      refine l_iconst X (v := 1) dL_law_406 (by decide) ?_
      refine l_iadd X (z := nI (i + 1)) (nI_add i 1) dL_law_407 ?_
      refine l_sld X (vp_in_nI (by omega) (by omega)) dL_law_408 ?_
      refine l_callX X (n := 1) (As := [.int (xs (nI (i + 1)).toNatClampNeg)]) (st := []) (c_X2_unblock l D cI cZ α (AX cI α) X.JX (xs (nI (i + 1)).toNatClampNeg) σ r _ e1) ml_L_62 im_X2_unblock se_X2_unblock co_X2_unblock (by decide +kernel) ⟨Nat.le_of_ble_eq_true rfl, Nat.le_of_ble_eq_true rfl⟩ rfl rfl (Nat.le_of_ble_eq_true rfl) dL_law_409 ?_
      refine l_aload_n X (j := 2) dL_law_412 rfl rfl ?_
      refine l_aload_n X (j := 0) dL_law_413 rfl rfl ?_
      refine l_iload_n X (j := 3) dL_law_414 rfl rfl ?_
      refine l_iconst X (v := 1) dL_law_415 (by decide) ?_
      refine l_iadd X (z := nI (i + 1)) (nI_add i 1) dL_law_416 ?_
      refine l_sld X (vp_in_nI (by omega) (by omega)) dL_law_417 ?_
      refine l_callM X (n := 1) (As := [.int (xs (nI (i + 1)).toNatClampNeg)]) (st := [.int r]) (c_X3_unblock l D cI cZ β (AM cI cZ β) X.JM (xs (nI (i + 1)).toNatClampNeg) ρ r _ e2) ml_L_65 im_X3_unblock se_X3_unblock co_X3_unblock (by decide +kernel) ⟨Nat.le_of_ble_eq_true rfl, Nat.le_of_ble_eq_true rfl⟩ rfl rfl (Nat.le_of_ble_eq_true rfl) dL_law_418 ?_
      refine l_eq X (tgt := 594) dL_law_421 (by decide) ?_
      exact hnext σ1 ρ1 hR1
    by_cases hs12 : xs (nI i).toNatClampNeg &&& 31 = 12
    · refine l_tabIn X (off := 394) (tgt := 426) dL_law_32 (by rw [hs12]; decide) (by rw [hs12]; decide) (by rw [hs12]; decide) (by decide) ?_
      obtain ⟨r, σ1, ρ1, e1, e2, hR1⟩ := hsim.2.2.2.2.2.2.2.2.2.2.2.2.1 σ ρ hR
      refine l_aload_n X (j := 1) dL_law_426 rfl rfl ?_
      refine l_callX X (n := 0) (As := []) (st := []) (c_X2_freeFrames l D cI cZ α (AX cI α) X.JX σ r _ e1) ml_L_66 im_X2_freeFrames se_X2_freeFrames co_X2_freeFrames (by decide +kernel) ⟨Nat.le_of_ble_eq_true rfl, Nat.le_of_ble_eq_true rfl⟩ rfl rfl (Nat.le_of_ble_eq_true rfl) dL_law_427 ?_
      refine l_aload_n X (j := 2) dL_law_430 rfl rfl ?_
      refine l_callM X (n := 0) (As := []) (st := [.int r]) (c_X3_freeFrames l D cI cZ β (AM cI cZ β) X.JM ρ r _ e2) ml_L_69 im_X3_freeFrames se_X3_freeFrames co_X3_freeFrames (by decide +kernel) ⟨Nat.le_of_ble_eq_true rfl, Nat.le_of_ble_eq_true rfl⟩ rfl rfl (Nat.le_of_ble_eq_true rfl) dL_law_431 ?_
      refine l_eq X (tgt := 594) dL_law_434 (by decide) ?_
      exact hnext σ1 ρ1 hR1
    by_cases hs13 : xs (nI i).toNatClampNeg &&& 31 = 13
    · refine l_tabIn X (off := 407) (tgt := 439) dL_law_32 (by rw [hs13]; decide) (by rw [hs13]; decide) (by rw [hs13]; decide) (by decide) ?_
      obtain ⟨r, σ1, ρ1, e1, e2, hR1⟩ := hsim.2.2.2.2.2.2.2.2.2.2.2.2.2.1 (xs (nI (i + 1)).toNatClampNeg) (xs (nI (i + 2)).toNatClampNeg) σ ρ hR
      refine l_aload_n X (j := 1) dL_law_439 rfl rfl ?_
      refine l_aload_n X (j := 0) dL_law_440 rfl rfl ?_
      refine l_iload_n X (j := 3) dL_law_441 rfl rfl ?_
      refine l_iconst X (v := 1) dL_law_442 (by decide) ?_
      refine l_iadd X (z := nI (i + 1)) (nI_add i 1) dL_law_443 ?_
      refine l_sld X (vp_in_nI (by omega) (by omega)) dL_law_444 ?_
      refine l_aload_n X (j := 0) dL_law_445 rfl rfl ?_
      refine l_iload_n X (j := 3) dL_law_446 rfl rfl ?_
      refine l_iconst X (v := 2) dL_law_447 (by decide) ?_
      refine l_iadd X (z := nI (i + 2)) (nI_add i 2) dL_law_448 ?_
      refine l_sld X (vp_in_nI (by omega) (by omega)) dL_law_449 ?_
      refine l_callX X (n := 2) (As := [.int (xs (nI (i + 1)).toNatClampNeg), .int (xs (nI (i + 2)).toNatClampNeg)]) (st := []) (c_X2_free l D cI cZ α (AX cI α) X.JX (xs (nI (i + 1)).toNatClampNeg) (xs (nI (i + 2)).toNatClampNeg) σ r _ e1) ml_L_70 im_X2_free se_X2_free co_X2_free (by decide +kernel) ⟨Nat.le_of_ble_eq_true rfl, Nat.le_of_ble_eq_true rfl⟩ rfl rfl (Nat.le_of_ble_eq_true rfl) dL_law_450 ?_
      refine l_aload_n X (j := 2) dL_law_453 rfl rfl ?_
      refine l_aload_n X (j := 0) dL_law_454 rfl rfl ?_
      refine l_iload_n X (j := 3) dL_law_455 rfl rfl ?_
      refine l_iconst X (v := 1) dL_law_456 (by decide) ?_
      refine l_iadd X (z := nI (i + 1)) (nI_add i 1) dL_law_457 ?_
      refine l_sld X (vp_in_nI (by omega) (by omega)) dL_law_458 ?_
      refine l_aload_n X (j := 0) dL_law_459 rfl rfl ?_
      refine l_iload_n X (j := 3) dL_law_460 rfl rfl ?_
      refine l_iconst X (v := 2) dL_law_461 (by decide) ?_
      refine l_iadd X (z := nI (i + 2)) (nI_add i 2) dL_law_462 ?_
      refine l_sld X (vp_in_nI (by omega) (by omega)) dL_law_463 ?_
      refine l_callM X (n := 2) (As := [.int (xs (nI (i + 1)).toNatClampNeg), .int (xs (nI (i + 2)).toNatClampNeg)]) (st := [.int r]) (c_X3_free l D cI cZ β (AM cI cZ β) X.JM (xs (nI (i + 1)).toNatClampNeg) (xs (nI (i + 2)).toNatClampNeg) ρ r _ e2) ml_L_73 im_X3_free se_X3_free co_X3_free (by decide +kernel) ⟨Nat.le_of_ble_eq_true rfl, Nat.le_of_ble_eq_true rfl⟩ rfl rfl (Nat.le_of_ble_eq_true rfl) dL_law_464 ?_
      refine l_eq X (tgt := 594) dL_law_467 (by decide) ?_
      exact hnext σ1 ρ1 hR1
    by_cases hs14 : xs (nI i).toNatClampNeg &&& 31 = 14
    · refine l_tabIn X (off := 440) (tgt := 472) dL_law_32 (by rw [hs14]; decide) (by rw [hs14]; decide) (by rw [hs14]; decide) (by decide) ?_
      obtain ⟨r, σ1, ρ1, e1, e2, hR1⟩ := hsim.2.2.2.2.2.2.2.2.2.2.2.2.2.2.1 (xs (nI (i + 1)).toNatClampNeg) (xs (nI (i + 2)).toNatClampNeg) σ ρ hR
      refine l_aload_n X (j := 1) dL_law_472 rfl rfl ?_
      refine l_aload_n X (j := 0) dL_law_473 rfl rfl ?_
      refine l_iload_n X (j := 3) dL_law_474 rfl rfl ?_
      refine l_iconst X (v := 1) dL_law_475 (by decide) ?_
      refine l_iadd X (z := nI (i + 1)) (nI_add i 1) dL_law_476 ?_
      refine l_sld X (vp_in_nI (by omega) (by omega)) dL_law_477 ?_
      refine l_aload_n X (j := 0) dL_law_478 rfl rfl ?_
      refine l_iload_n X (j := 3) dL_law_479 rfl rfl ?_
      refine l_iconst X (v := 2) dL_law_480 (by decide) ?_
      refine l_iadd X (z := nI (i + 2)) (nI_add i 2) dL_law_481 ?_
      refine l_sld X (vp_in_nI (by omega) (by omega)) dL_law_482 ?_
      refine l_callX X (n := 2) (As := [.int (xs (nI (i + 1)).toNatClampNeg), .int (xs (nI (i + 2)).toNatClampNeg)]) (st := []) (c_X2_frame l D cI cZ α (AX cI α) X.JX (xs (nI (i + 1)).toNatClampNeg) (xs (nI (i + 2)).toNatClampNeg) σ r _ e1) ml_L_74 im_X2_frame se_X2_frame co_X2_frame (by decide +kernel) ⟨Nat.le_of_ble_eq_true rfl, Nat.le_of_ble_eq_true rfl⟩ rfl rfl (Nat.le_of_ble_eq_true rfl) dL_law_483 ?_
      refine l_aload_n X (j := 2) dL_law_486 rfl rfl ?_
      refine l_aload_n X (j := 0) dL_law_487 rfl rfl ?_
      refine l_iload_n X (j := 3) dL_law_488 rfl rfl ?_
      refine l_iconst X (v := 1) dL_law_489 (by decide) ?_
      refine l_iadd X (z := nI (i + 1)) (nI_add i 1) dL_law_490 ?_
      refine l_sld X (vp_in_nI (by omega) (by omega)) dL_law_491 ?_
      refine l_aload_n X (j := 0) dL_law_492 rfl rfl ?_
      refine l_iload_n X (j := 3) dL_law_493 rfl rfl ?_
      refine l_iconst X (v := 2) dL_law_494 (by decide) ?_
      refine l_iadd X (z := nI (i + 2)) (nI_add i 2) dL_law_495 ?_
      refine l_sld X (vp_in_nI (by omega) (by omega)) dL_law_496 ?_
      refine l_callM X (n := 2) (As := [.int (xs (nI (i + 1)).toNatClampNeg), .int (xs (nI (i + 2)).toNatClampNeg)]) (st := [.int r]) (c_X3_frame l D cI cZ β (AM cI cZ β) X.JM (xs (nI (i + 1)).toNatClampNeg) (xs (nI (i + 2)).toNatClampNeg) ρ r _ e2) ml_L_77 im_X3_frame se_X3_frame co_X3_frame (by decide +kernel) ⟨Nat.le_of_ble_eq_true rfl, Nat.le_of_ble_eq_true rfl⟩ rfl rfl (Nat.le_of_ble_eq_true rfl) dL_law_497 ?_
      refine l_eq X (tgt := 594) dL_law_500 (by decide) ?_
      exact hnext σ1 ρ1 hR1
    by_cases hs15 : xs (nI i).toNatClampNeg &&& 31 = 15
    · refine l_tabIn X (off := 473) (tgt := 505) dL_law_32 (by rw [hs15]; decide) (by rw [hs15]; decide) (by rw [hs15]; decide) (by decide) ?_
      obtain ⟨r, σ1, ρ1, e1, e2, hR1⟩ := hsim.2.2.2.2.2.2.2.2.2.2.2.2.2.2.2.1 (xs (nI (i + 1)).toNatClampNeg) (xs (nI (i + 2)).toNatClampNeg) σ ρ hR
      refine l_aload_n X (j := 1) dL_law_505 rfl rfl ?_
      refine l_aload_n X (j := 0) dL_law_506 rfl rfl ?_
      refine l_iload_n X (j := 3) dL_law_507 rfl rfl ?_
      refine l_iconst X (v := 1) dL_law_508 (by decide) ?_
      refine l_iadd X (z := nI (i + 1)) (nI_add i 1) dL_law_509 ?_
      refine l_sld X (vp_in_nI (by omega) (by omega)) dL_law_510 ?_
      refine l_aload_n X (j := 0) dL_law_511 rfl rfl ?_
      refine l_iload_n X (j := 3) dL_law_512 rfl rfl ?_
      refine l_iconst X (v := 2) dL_law_513 (by decide) ?_
      refine l_iadd X (z := nI (i + 2)) (nI_add i 2) dL_law_514 ?_
      refine l_sld X (vp_in_nI (by omega) (by omega)) dL_law_515 ?_
      refine l_callX X (n := 2) (As := [.int (xs (nI (i + 1)).toNatClampNeg), .int (xs (nI (i + 2)).toNatClampNeg)]) (st := []) (c_X2_about l D cI cZ α (AX cI α) X.JX (xs (nI (i + 1)).toNatClampNeg) (xs (nI (i + 2)).toNatClampNeg) σ r _ e1) ml_L_78 im_X2_about se_X2_about co_X2_about (by decide +kernel) ⟨Nat.le_of_ble_eq_true rfl, Nat.le_of_ble_eq_true rfl⟩ rfl rfl (Nat.le_of_ble_eq_true rfl) dL_law_516 ?_
      refine l_aload_n X (j := 2) dL_law_519 rfl rfl ?_
      refine l_aload_n X (j := 0) dL_law_520 rfl rfl ?_
      refine l_iload_n X (j := 3) dL_law_521 rfl rfl ?_
      refine l_iconst X (v := 1) dL_law_522 (by decide) ?_
      refine l_iadd X (z := nI (i + 1)) (nI_add i 1) dL_law_523 ?_
      refine l_sld X (vp_in_nI (by omega) (by omega)) dL_law_524 ?_
      refine l_aload_n X (j := 0) dL_law_525 rfl rfl ?_
      refine l_iload_n X (j := 3) dL_law_526 rfl rfl ?_
      refine l_iconst X (v := 2) dL_law_527 (by decide) ?_
      refine l_iadd X (z := nI (i + 2)) (nI_add i 2) dL_law_528 ?_
      refine l_sld X (vp_in_nI (by omega) (by omega)) dL_law_529 ?_
      refine l_callM X (n := 2) (As := [.int (xs (nI (i + 1)).toNatClampNeg), .int (xs (nI (i + 2)).toNatClampNeg)]) (st := [.int r]) (c_X3_about l D cI cZ β (AM cI cZ β) X.JM (xs (nI (i + 1)).toNatClampNeg) (xs (nI (i + 2)).toNatClampNeg) ρ r _ e2) ml_L_81 im_X3_about se_X3_about co_X3_about (by decide +kernel) ⟨Nat.le_of_ble_eq_true rfl, Nat.le_of_ble_eq_true rfl⟩ rfl rfl (Nat.le_of_ble_eq_true rfl) dL_law_530 ?_
      refine l_eq X (tgt := 594) dL_law_533 (by decide) ?_
      exact hnext σ1 ρ1 hR1
    by_cases hs16 : xs (nI i).toNatClampNeg &&& 31 = 16
    · refine l_tabIn X (off := 506) (tgt := 538) dL_law_32 (by rw [hs16]; decide) (by rw [hs16]; decide) (by rw [hs16]; decide) (by decide) ?_
      obtain ⟨r, σ1, ρ1, e1, e2, hR1⟩ := hsim.2.2.2.2.2.2.2.2.2.2.2.2.2.2.2.2.1 (xs (nI (i + 1)).toNatClampNeg) (xs (nI (i + 2)).toNatClampNeg) σ ρ hR
      refine l_aload_n X (j := 1) dL_law_538 rfl rfl ?_
      refine l_aload_n X (j := 0) dL_law_539 rfl rfl ?_
      refine l_iload_n X (j := 3) dL_law_540 rfl rfl ?_
      refine l_iconst X (v := 1) dL_law_541 (by decide) ?_
      refine l_iadd X (z := nI (i + 1)) (nI_add i 1) dL_law_542 ?_
      refine l_sld X (vp_in_nI (by omega) (by omega)) dL_law_543 ?_
      refine l_aload_n X (j := 0) dL_law_544 rfl rfl ?_
      refine l_iload_n X (j := 3) dL_law_545 rfl rfl ?_
      refine l_iconst X (v := 2) dL_law_546 (by decide) ?_
      refine l_iadd X (z := nI (i + 2)) (nI_add i 2) dL_law_547 ?_
      refine l_sld X (vp_in_nI (by omega) (by omega)) dL_law_548 ?_
      refine l_callX X (n := 2) (As := [.int (xs (nI (i + 1)).toNatClampNeg), .int (xs (nI (i + 2)).toNatClampNeg)]) (st := []) (c_X2_process l D cI cZ α (AX cI α) X.JX (xs (nI (i + 1)).toNatClampNeg) (xs (nI (i + 2)).toNatClampNeg) σ r _ e1) ml_L_82 im_X2_process se_X2_process co_X2_process (by decide +kernel) ⟨Nat.le_of_ble_eq_true rfl, Nat.le_of_ble_eq_true rfl⟩ rfl rfl (Nat.le_of_ble_eq_true rfl) dL_law_549 ?_
      refine l_aload_n X (j := 2) dL_law_552 rfl rfl ?_
      refine l_aload_n X (j := 0) dL_law_553 rfl rfl ?_
      refine l_iload_n X (j := 3) dL_law_554 rfl rfl ?_
      refine l_iconst X (v := 1) dL_law_555 (by decide) ?_
      refine l_iadd X (z := nI (i + 1)) (nI_add i 1) dL_law_556 ?_
      refine l_sld X (vp_in_nI (by omega) (by omega)) dL_law_557 ?_
      refine l_aload_n X (j := 0) dL_law_558 rfl rfl ?_
      refine l_iload_n X (j := 3) dL_law_559 rfl rfl ?_
      refine l_iconst X (v := 2) dL_law_560 (by decide) ?_
      refine l_iadd X (z := nI (i + 2)) (nI_add i 2) dL_law_561 ?_
      refine l_sld X (vp_in_nI (by omega) (by omega)) dL_law_562 ?_
      refine l_callM X (n := 2) (As := [.int (xs (nI (i + 1)).toNatClampNeg), .int (xs (nI (i + 2)).toNatClampNeg)]) (st := [.int r]) (c_X3_process l D cI cZ β (AM cI cZ β) X.JM (xs (nI (i + 1)).toNatClampNeg) (xs (nI (i + 2)).toNatClampNeg) ρ r _ e2) ml_L_85 im_X3_process se_X3_process co_X3_process (by decide +kernel) ⟨Nat.le_of_ble_eq_true rfl, Nat.le_of_ble_eq_true rfl⟩ rfl rfl (Nat.le_of_ble_eq_true rfl) dL_law_563 ?_
      refine l_eq X (tgt := 594) dL_law_566 (by decide) ?_
      exact hnext σ1 ρ1 hR1
    by_cases hs17 : xs (nI i).toNatClampNeg &&& 31 = 17
    · refine l_tabIn X (off := 539) (tgt := 571) dL_law_32 (by rw [hs17]; decide) (by rw [hs17]; decide) (by rw [hs17]; decide) (by decide) ?_
      obtain ⟨r, σ1, ρ1, e1, e2, hR1⟩ := hsim.2.2.2.2.2.2.2.2.2.2.2.2.2.2.2.2.2 (xs (nI (i + 1)).toNatClampNeg) σ ρ hR
      refine l_aload_n X (j := 1) dL_law_571 rfl rfl ?_
      refine l_aload_n X (j := 0) dL_law_572 rfl rfl ?_
      refine l_iload_n X (j := 3) dL_law_573 rfl rfl ?_
      refine l_iconst X (v := 1) dL_law_574 (by decide) ?_
      refine l_iadd X (z := nI (i + 1)) (nI_add i 1) dL_law_575 ?_
      refine l_sld X (vp_in_nI (by omega) (by omega)) dL_law_576 ?_
      refine l_callX X (n := 1) (As := [.int (xs (nI (i + 1)).toNatClampNeg)]) (st := []) (c_X2_told l D cI cZ α (AX cI α) X.JX (xs (nI (i + 1)).toNatClampNeg) σ r _ e1) ml_L_86 im_X2_told se_X2_told co_X2_told (by decide +kernel) ⟨Nat.le_of_ble_eq_true rfl, Nat.le_of_ble_eq_true rfl⟩ rfl rfl (Nat.le_of_ble_eq_true rfl) dL_law_577 ?_
      refine l_aload_n X (j := 2) dL_law_580 rfl rfl ?_
      refine l_aload_n X (j := 0) dL_law_581 rfl rfl ?_
      refine l_iload_n X (j := 3) dL_law_582 rfl rfl ?_
      refine l_iconst X (v := 1) dL_law_583 (by decide) ?_
      refine l_iadd X (z := nI (i + 1)) (nI_add i 1) dL_law_584 ?_
      refine l_sld X (vp_in_nI (by omega) (by omega)) dL_law_585 ?_
      refine l_callM X (n := 1) (As := [.int (xs (nI (i + 1)).toNatClampNeg)]) (st := [.int r]) (c_X3_told l D cI cZ β (AM cI cZ β) X.JM (xs (nI (i + 1)).toNatClampNeg) ρ r _ e2) ml_L_89 im_X3_told se_X3_told co_X3_told (by decide +kernel) ⟨Nat.le_of_ble_eq_true rfl, Nat.le_of_ble_eq_true rfl⟩ rfl rfl (Nat.le_of_ble_eq_true rfl) dL_law_586 ?_
      refine l_eq X (tgt := 594) dL_law_589 (by decide) ?_
      exact hnext σ1 ρ1 hR1
    refine l_tabOut X (tgt := 594) dL_law_32 (by have hq0 := lv_neT hs0 (a := 0) (by decide); have hq1 := lv_neT hs1 (a := 1) (by decide); have hq2 := lv_neT hs2 (a := 2) (by decide); have hq3 := lv_neT hs3 (a := 3) (by decide); have hq4 := lv_neT hs4 (a := 4) (by decide); have hq5 := lv_neT hs5 (a := 5) (by decide); have hq6 := lv_neT hs6 (a := 6) (by decide); have hq7 := lv_neT hs7 (a := 7) (by decide); have hq8 := lv_neT hs8 (a := 8) (by decide); have hq9 := lv_neT hs9 (a := 9) (by decide); have hq10 := lv_neT hs10 (a := 10) (by decide); have hq11 := lv_neT hs11 (a := 11) (by decide); have hq12 := lv_neT hs12 (a := 12) (by decide); have hq13 := lv_neT hs13 (a := 13) (by decide); have hq14 := lv_neT hs14 (a := 14) (by decide); have hq15 := lv_neT hs15 (a := 15) (by decide); have hq16 := lv_neT hs16 (a := 16) (by decide); have hq17 := lv_neT hs17 (a := 17) (by decide); omega) (by decide) ?_
    exact hnext σ ρ hR
