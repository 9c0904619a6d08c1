/-! Rows of our own: a state of the system is KS (arrays by number, scalars by number); a method's model is a function to Option (answer, state); Cr says that the machine at pc does what the model says. -/
abbrev KS : Type := (Nat → Nat → Int32) × (Nat → Int32)
abbrev KR : Type := Option (Int32 × KS)
def rd (σ : KS) (k : Nat) (i : Int32) : Int32 := σ.1 k i.toNatClampNeg
def wr (σ : KS) (k : Nat) (i x : Int32) : KS := (va_up σ.1 k (upd (σ.1 k) i.toNatClampNeg x), σ.2)
def gv (σ : KS) (j : Nat) : Int32 := σ.2 j
def sv (σ : KS) (j : Nat) (x : Int32) : KS := (σ.1, va_up σ.2 j x)
def chk (i : Int32) (n : Nat) (k : KR) : KR := if 0 ≤ i.toInt ∧ i.toInt < n then k else none
def zchk (r : Int32) (k : KR) : KR := if r = 0 ∨ r = 1 then k else none
def bnd (x : KR) (f : Int32 → KS → KR) : KR := match x with
  | some (a, b) => f a b
  | none => none
def FU : Nat := 1100
theorem chk_some {i : Int32} {n : Nat} {k : KR} {y : Int32 × KS} (h : chk i n k = some y) : vp_in i n ∧ k = some y := by
  unfold chk at h
  by_cases hc : 0 ≤ i.toInt ∧ i.toInt < n
  · rw [if_pos hc] at h; exact ⟨vp_in_iff.mpr hc, h⟩
  · rw [if_neg hc] at h; cases h
theorem zchk_some {r : Int32} {k : KR} {y : Int32 × KS} (h : zchk r k = some y) : (r = 0 ∨ r = 1) ∧ k = some y := by
  unfold zchk at h
  by_cases hc : r = 0 ∨ r = 1
  · rw [if_pos hc] at h; exact ⟨hc, h⟩
  · rw [if_neg hc] at h; cases h
theorem bnd_some {x : KR} {f : Int32 → KS → KR} {y : Int32 × KS} (h : bnd x f = some y) : ∃ a b, x = some (a, b) ∧ f a b = some y := by
  unfold bnd at h
  match x, h with
  | some (a, b), h => exact ⟨a, b, rfl, h⟩
/-- the three nest links -/
def nst (U : State) : Prop := va_Nw (.methodLinkNest RX0 18 yX2_isOrder RX2) U ∧ va_Nw (.methodLinkNest RX0 37 yX2_isFrame RX2) U ∧ va_Nw (.methodLinkNest RX1 19 yX2_isFrame RX2) U
theorem nst.warm {s U : State} (hW : s.WarmedH U.vm) (h : nst s) : nst U := ⟨va_Nw.warmM hW h.1, va_Nw.warmM hW h.2.1, va_Nw.warmM hW h.2.2⟩
theorem nst.same {s U : State} (hvm : s.vm = U.vm) (h : nst s) : nst U := ⟨va_Nw.same rfl hvm h.1, va_Nw.same rfl hvm h.2.1, va_Nw.same rfl hvm h.2.2⟩
def kE (D : va_G) (tys : List (ClassId × FieldType)) (U : State) : Prop := va_K D vwCl tys U ∧ nst U
def kPc (D : va_G) (tys : List (ClassId × FieldType)) (kw : KS → va_W) (av : List Value) (σ : KS) : Array Value → State → Prop := va_Pc av (fun U => va_P D vwCl (kw σ) U.heap ∧ kE D tys U)
def kQ (D : va_G) (kw : KS → va_W) (A : Nat → Prop) (vo : Int32 → Option Value) (r : Int32) (σ : KS) : Array Value → State → Outcome → State → Prop := fun _ st oc t => oc = .returned (vo r) ∧ va_P D vwCl (kw σ) t.heap ∧ va_F A st t
def rmd (d : Nat) : Room := { frames := d, cells := 0, slots := 0, locals := 30 * d }
abbrev wsM (y : MethodName) (cc : ByteArray) (nL : Nat) (ret : Option FieldType) : List Cond := .code y cc nL ret :: wA

theorem zn {x : Int32} (h : x = 0 ∨ x = 1) : vp_nar .boolean x = x := by rcases h with rfl | rfl <;> rfl
def vI : Int32 → Option Value := fun r => some (.int r)
def vV : Int32 → Option Value := fun _ => none
/-- a method's contract: what its model answers, the machine answers -/
def Ct (l : Launch) (D : va_G) (tys : List (ClassId × FieldType)) (kw : KS → va_W) (A : Nat → Prop) (y : MethodName) (cc : ByteArray) (nL : Nat) (ret : Option FieldType) (d : Nat) (vo : Int32 → Option Value) (av : List Value) (σ : KS) (k : KR) : Prop :=
  ∀ r σ', k = some (r, σ') → Met l y (wsM y cc nL ret) (rmd d) (kPc D tys kw av σ) (kQ D kw A vo r σ') 0 0 A
def CX (p : Program) (s : State) (m : MethodId) (args : Array Value) (meth : Method) (c : Code) (cc : ByteArray) (nL : Nat) (own : String) (D : va_G) (tys : List (ClassId × FieldType)) (kw : KS → va_W) (A : Nat → Prop) (ret : Option FieldType) : Prop :=
  CallFix p m c cc nL s args wA own ∧ va_K D vwCl tys s ∧ nst s ∧ (∀ σ, va_D A (kw σ)) ∧ meth.locks = false ∧ meth.sig.returnType = ret
def Cr (p : Program) (l : Launch) (e : Env) (R : Room) (s : State) (m : MethodId) (args : Array Value) (below : List Frame) (meth : Method) (c : Code) (nL : Nat) (D : va_G) (kw : KS → va_W) (A : Nat → Prop) (vo : Int32 → Option Value) (pc : Nat) (lv : List (Nat × Value)) (st : List Value) (σ : KS) (k : KR) : Prop :=
  ∀ (ls : Array Slot) (H : Heap) (locs : List Loc), lv_has ls nL lv → va_P D vwCl (kw σ) H → va_S A s.heap H locs → ∀ r σ', k = some (r, σ') → W p l e R s m args below meth c H locs 0 0 (MQ below (kQ D kw A vo r σ') args s 0 0 A) (F0 m pc ls st)
section CRR
variable {p : Program} {l : Launch} {e : Env} {R : Room} {s : State} {m : MethodId} {args : Array Value} {below : List Frame} {meth : Method} {c : Code} {cc : ByteArray} {nL : Nat} {own : String} {D : va_G} {tys : List (ClassId × FieldType)} {kw : KS → va_W} {A : Nat → Prop} {ret : Option FieldType} {vo : Int32 → Option Value}
variable {pc : Nat} {lv : List (Nat × Value)} {st : List Value} {σ : KS} {k : KR}
theorem Ct.of {y : MethodName} {d : Nat} {av : List Value} (hJ : ∀ σ, va_D A (kw σ)) (hy : plainName y.cls = true) (hown : y.cls = own) (hn : (lg_sl av).length ≤ nL)
    (body : ∀ (p : Program) (e : Env) (s : State) (m : MethodId) (args : Array Value) (below : List Frame) (meth : Method) (c : Code), CX p s m args meth c cc nL own D tys kw A ret → Cr p l e (rmd d) s m args below meth c nL D kw A vo 0 (lv_args 0 av) [] σ k) :
    Ct l D tys kw A y cc nL ret d vo av σ k := by
  subst hown
  intro r σ' hk
  refine Met.ofW (cc := cc) (maxL := nL) (ret := ret) hy rfl ?_
  intro p e s m args below meth c s₁ B hml hv
  obtain ⟨rfl, hP, hK, hN⟩ := hv
  have hts := atoms_spec (ws := wsM y cc nL ret) B.pre
  have X : CX p s m av.toArray meth c cc nL y.cls D tys kw A ret := ⟨⟨B.exec, B.bytes, hml, findClass_of_methodNamed B.named, fun w h => hts w (List.mem_cons_of_mem _ h)⟩, hK, hN, hJ, B.notSynchronized, B.returns⟩
  rw [lg_entry_eq]
  exact body p e s m av.toArray below meth c X _ s.heap [] (lv_entry av hn) hP va_S.rf r σ' hk
theorem r_ite {P : Prop} [Decidable P] {k1 k2 : KR} (h1 : P → Cr p l e R s m args below meth c nL D kw A vo pc lv st σ k1) (h2 : ¬ P → Cr p l e R s m args below meth c nL D kw A vo pc lv st σ k2) : Cr p l e R s m args below meth c nL D kw A vo pc lv st σ (if P then k1 else k2) := by
  by_cases hp : P
  · rw [if_pos hp]; exact h1 hp
  · rw [if_neg hp]; exact h2 hp
theorem r_none : Cr p l e R s m args below meth c nL D kw A vo pc lv st σ none := fun _ _ _ _ _ _ _ _ h => by cases h
theorem r_sub (ks : List Nat) {lv' : List (Nat × Value)} (hl : lv_pick lv ks = lv') (h : Cr p l e R s m args below meth c nL D kw A vo pc lv' st σ k) : Cr p l e R s m args below meth c nL D kw A vo pc lv st σ k :=
  fun ls H locs hl0 hP hS r σ' hk => h ls H locs (lv_sub hl0 ks hl) hP hS r σ' hk
theorem r_iload_n (X : CX p s m args meth c cc nL own D tys kw A ret) {i j : Nat} {x : Int32} {kk : Fin 4} (hdg : decode cc pc = .ok (.iload_n kk, 1)) (hi : (kk : Nat) = i) (hj : lv[j]? = some (i, .int x)) (h : Cr p l e R s m args below meth c nL D kw A vo (pc + 1) lv (.int x :: st) σ k) : Cr p l e R s m args below meth c nL D kw A vo pc lv (st) σ k :=
  fun ls H locs hl hP hS r σ' hk => lv_iload_n X.1.1 X.1.2.1 hdg hi (lv_at hl j hj) (h ls H locs hl hP hS r σ' hk)
theorem r_iload (X : CX p s m args meth c cc nL own D tys kw A ret) {i j : Nat} {x : Int32} (hdg : decode cc pc = .ok (.iload i, 2)) (hj : lv[j]? = some (i, .int x)) (h : Cr p l e R s m args below meth c nL D kw A vo (pc + 2) lv (.int x :: st) σ k) : Cr p l e R s m args below meth c nL D kw A vo pc lv (st) σ k :=
  fun ls H locs hl hP hS r σ' hk => lv_iload X.1.1 X.1.2.1 hdg (lv_at hl j hj) (h ls H locs hl hP hS r σ' hk)
theorem r_aload_n (X : CX p s m args meth c cc nL own D tys kw A ret) {i j x : Nat} {kk : Fin 4} (hdg : decode cc pc = .ok (.aload_n kk, 1)) (hi : (kk : Nat) = i) (hj : lv[j]? = some (i, .ref x)) (h : Cr p l e R s m args below meth c nL D kw A vo (pc + 1) lv (.ref x :: st) σ k) : Cr p l e R s m args below meth c nL D kw A vo pc lv (st) σ k :=
  fun ls H locs hl hP hS r σ' hk => lv_aload_n X.1.1 X.1.2.1 hdg hi (lv_at hl j hj) (h ls H locs hl hP hS r σ' hk)
theorem r_lload_n (X : CX p s m args meth c cc nL own D tys kw A ret) {i j : Nat} {x : Int64} {kk : Fin 4} (hdg : decode cc pc = .ok (.lload_n kk, 1)) (hi : (kk : Nat) = i) (hj : lv[j]? = some (i, .long x)) (h : Cr p l e R s m args below meth c nL D kw A vo (pc + 1) lv (.long x :: st) σ k) : Cr p l e R s m args below meth c nL D kw A vo pc lv (st) σ k :=
  fun ls H locs hl hP hS r σ' hk => lv_lload_n X.1.1 X.1.2.1 hdg hi (lv_at hl j hj) (h ls H locs hl hP hS r σ' hk)
theorem r_iconst (X : CX p s m args meth c cc nL own D tys kw A ret) {n : Int} {v : Int32} (hdg : decode cc pc = .ok (.iconst n, 1)) (hv : Int32.ofInt n = v) (h : Cr p l e R s m args below meth c nL D kw A vo (pc + 1) lv (.int v :: st) σ k) : Cr p l e R s m args below meth c nL D kw A vo pc lv (st) σ k :=
  fun ls H locs hl hP hS r σ' hk => lv_iconst X.1.1 X.1.2.1 hdg hv (h ls H locs hl hP hS r σ' hk)
theorem r_lconst (X : CX p s m args meth c cc nL own D tys kw A ret) {n : Fin 2} {v : Int64} (hdg : decode cc pc = .ok (.lconst n, 1)) (hv : Int64.ofNat (n : Nat) = v) (h : Cr p l e R s m args below meth c nL D kw A vo (pc + 1) lv (.long v :: st) σ k) : Cr p l e R s m args below meth c nL D kw A vo pc lv (st) σ k :=
  fun ls H locs hl hP hS r σ' hk => lv_lconst X.1.1 X.1.2.1 hdg hv (h ls H locs hl hP hS r σ' hk)
theorem r_bipush (X : CX p s m args meth c cc nL own D tys kw A ret) {n : Int} {v : Int32} (hdg : decode cc pc = .ok (.bipush n, 2)) (hv : (Int8.ofInt n).toInt32 = v) (h : Cr p l e R s m args below meth c nL D kw A vo (pc + 2) lv (.int v :: st) σ k) : Cr p l e R s m args below meth c nL D kw A vo pc lv (st) σ k :=
  fun ls H locs hl hP hS r σ' hk => lv_bipush X.1.1 X.1.2.1 hdg hv (h ls H locs hl hP hS r σ' hk)
theorem r_sipush (X : CX p s m args meth c cc nL own D tys kw A ret) {n : Int} {v : Int32} (hdg : decode cc pc = .ok (.sipush n, 3)) (hv : (Int16.ofInt n).toInt32 = v) (h : Cr p l e R s m args below meth c nL D kw A vo (pc + 3) lv (.int v :: st) σ k) : Cr p l e R s m args below meth c nL D kw A vo pc lv (st) σ k :=
  fun ls H locs hl hP hS r σ' hk => lv_sipush X.1.1 X.1.2.1 hdg hv (h ls H locs hl hP hS r σ' hk)
theorem r_ldcw (X : CX p s m args meth c cc nL own D tys kw A ret) {ix : Nat} {v : Int32} (hm : Cond.constant own ix v ∈ wA) (hdg : decode cc pc = .ok (.ldc_w ix, 3)) (h : Cr p l e R s m args below meth c nL D kw A vo (pc + 3) lv (.int v :: st) σ k) : Cr p l e R s m args below meth c nL D kw A vo pc lv (st) σ k :=
  fun ls H locs hl hP hS r σ' hk => lv_ldcw X.1.1 X.1.2.1 X.1.2.2.2.1 (X.1.2.2.2.2 _ hm) hdg (h ls H locs hl hP hS r σ' hk)
theorem r_ldc2 (X : CX p s m args meth c cc nL own D tys kw A ret) {ix : Nat} {v : Int64} (hm : Cond.constantLong own ix v ∈ wA) (hdg : decode cc pc = .ok (.ldc2_w ix, 3)) (h : Cr p l e R s m args below meth c nL D kw A vo (pc + 3) lv (.long v :: st) σ k) : Cr p l e R s m args below meth c nL D kw A vo pc lv (st) σ k :=
  fun ls H locs hl hP hS r σ' hk => lv_ldc2 X.1.1 X.1.2.1 X.1.2.2.2.1 (X.1.2.2.2.2 _ hm) hdg (h ls H locs hl hP hS r σ' hk)
theorem r_iadd (X : CX p s m args meth c cc nL own D tys kw A ret) {x y : Int32} (hdg : decode cc pc = .ok (.iadd, 1)) (h : Cr p l e R s m args below meth c nL D kw A vo (pc + 1) lv (.int (x + y) :: st) σ k) : Cr p l e R s m args below meth c nL D kw A vo pc lv (.int y :: .int x :: st) σ k :=
  fun ls H locs hl hP hS r σ' hk => lv_iadd X.1.1 X.1.2.1 hdg (h ls H locs hl hP hS r σ' hk)
theorem r_isub (X : CX p s m args meth c cc nL own D tys kw A ret) {x y : Int32} (hdg : decode cc pc = .ok (.isub, 1)) (h : Cr p l e R s m args below meth c nL D kw A vo (pc + 1) lv (.int (x - y) :: st) σ k) : Cr p l e R s m args below meth c nL D kw A vo pc lv (.int y :: .int x :: st) σ k :=
  fun ls H locs hl hP hS r σ' hk => lv_isub X.1.1 X.1.2.1 hdg (h ls H locs hl hP hS r σ' hk)
theorem r_imul (X : CX p s m args meth c cc nL own D tys kw A ret) {x y : Int32} (hdg : decode cc pc = .ok (.imul, 1)) (h : Cr p l e R s m args below meth c nL D kw A vo (pc + 1) lv (.int (x * y) :: st) σ k) : Cr p l e R s m args below meth c nL D kw A vo pc lv (.int y :: .int x :: st) σ k :=
  fun ls H locs hl hP hS r σ' hk => lv_imul X.1.1 X.1.2.1 hdg (h ls H locs hl hP hS r σ' hk)
theorem r_iand (X : CX p s m args meth c cc nL own D tys kw A ret) {x y : Int32} (hdg : decode cc pc = .ok (.iand, 1)) (h : Cr p l e R s m args below meth c nL D kw A vo (pc + 1) lv (.int (x &&& y) :: st) σ k) : Cr p l e R s m args below meth c nL D kw A vo pc lv (.int y :: .int x :: st) σ k :=
  fun ls H locs hl hP hS r σ' hk => lv_iand X.1.1 X.1.2.1 hdg (h ls H locs hl hP hS r σ' hk)
theorem r_ior (X : CX p s m args meth c cc nL own D tys kw A ret) {x y : Int32} (hdg : decode cc pc = .ok (.ior, 1)) (h : Cr p l e R s m args below meth c nL D kw A vo (pc + 1) lv (.int (x ||| y) :: st) σ k) : Cr p l e R s m args below meth c nL D kw A vo pc lv (.int y :: .int x :: st) σ k :=
  fun ls H locs hl hP hS r σ' hk => lv_ior X.1.1 X.1.2.1 hdg (h ls H locs hl hP hS r σ' hk)
theorem r_ixor (X : CX p s m args meth c cc nL own D tys kw A ret) {x y : Int32} (hdg : decode cc pc = .ok (.ixor, 1)) (h : Cr p l e R s m args below meth c nL D kw A vo (pc + 1) lv (.int (x ^^^ y) :: st) σ k) : Cr p l e R s m args below meth c nL D kw A vo pc lv (.int y :: .int x :: st) σ k :=
  fun ls H locs hl hP hS r σ' hk => lv_ixor X.1.1 X.1.2.1 hdg (h ls H locs hl hP hS r σ' hk)
theorem r_ishl (X : CX p s m args meth c cc nL own D tys kw A ret) {x y : Int32} (hdg : decode cc pc = .ok (.ishl, 1)) (h : Cr p l e R s m args below meth c nL D kw A vo (pc + 1) lv (.int (x <<< (y &&& 31)) :: st) σ k) : Cr p l e R s m args below meth c nL D kw A vo pc lv (.int y :: .int x :: st) σ k :=
  fun ls H locs hl hP hS r σ' hk => lv_ishl X.1.1 X.1.2.1 hdg (h ls H locs hl hP hS r σ' hk)
theorem r_ishr (X : CX p s m args meth c cc nL own D tys kw A ret) {x y : Int32} (hdg : decode cc pc = .ok (.ishr, 1)) (h : Cr p l e R s m args below meth c nL D kw A vo (pc + 1) lv (.int (x >>> (y &&& 31)) :: st) σ k) : Cr p l e R s m args below meth c nL D kw A vo pc lv (.int y :: .int x :: st) σ k :=
  fun ls H locs hl hP hS r σ' hk => lv_ishr X.1.1 X.1.2.1 hdg (h ls H locs hl hP hS r σ' hk)
theorem r_iushr (X : CX p s m args meth c cc nL own D tys kw A ret) {x y : Int32} (hdg : decode cc pc = .ok (.iushr, 1)) (h : Cr p l e R s m args below meth c nL D kw A vo (pc + 1) lv (.int ((x.toUInt32 >>> (y.toUInt32 &&& Int32.toUInt32 31)).toInt32) :: st) σ k) : Cr p l e R s m args below meth c nL D kw A vo pc lv (.int y :: .int x :: st) σ k :=
  fun ls H locs hl hP hS r σ' hk => lv_iushr X.1.1 X.1.2.1 hdg rfl (h ls H locs hl hP hS r σ' hk)
theorem r_idiv (X : CX p s m args meth c cc nL own D tys kw A ret) {x y : Int32} (hdg : decode cc pc = .ok (.idiv, 1)) (hne : ¬ y = 0) (h : Cr p l e R s m args below meth c nL D kw A vo (pc + 1) lv (.int (x / y) :: st) σ k) : Cr p l e R s m args below meth c nL D kw A vo pc lv (.int y :: .int x :: st) σ k :=
  fun ls H locs hl hP hS r σ' hk => lv_idiv X.1.1 X.1.2.1 hdg hne (h ls H locs hl hP hS r σ' hk)
theorem r_irem (X : CX p s m args meth c cc nL own D tys kw A ret) {x y : Int32} (hdg : decode cc pc = .ok (.irem, 1)) (hne : ¬ y = 0) (h : Cr p l e R s m args below meth c nL D kw A vo (pc + 1) lv (.int (x - x / y * y) :: st) σ k) : Cr p l e R s m args below meth c nL D kw A vo pc lv (.int y :: .int x :: st) σ k :=
  fun ls H locs hl hP hS r σ' hk => lv_irem X.1.1 X.1.2.1 hdg hne (h ls H locs hl hP hS r σ' hk)
theorem r_ineg (X : CX p s m args meth c cc nL own D tys kw A ret) {x : Int32} (hdg : decode cc pc = .ok (.ineg, 1)) (h : Cr p l e R s m args below meth c nL D kw A vo (pc + 1) lv (.int (-x) :: st) σ k) : Cr p l e R s m args below meth c nL D kw A vo pc lv (.int x :: st) σ k :=
  fun ls H locs hl hP hS r σ' hk => lv_ineg X.1.1 X.1.2.1 hdg (h ls H locs hl hP hS r σ' hk)
theorem r_i2l (X : CX p s m args meth c cc nL own D tys kw A ret) {x : Int32} (hdg : decode cc pc = .ok (.i2l, 1)) (h : Cr p l e R s m args below meth c nL D kw A vo (pc + 1) lv (.long x.toInt64 :: st) σ k) : Cr p l e R s m args below meth c nL D kw A vo pc lv (.int x :: st) σ k :=
  fun ls H locs hl hP hS r σ' hk => lv_i2l X.1.1 X.1.2.1 hdg rfl (h ls H locs hl hP hS r σ' hk)
theorem r_l2i (X : CX p s m args meth c cc nL own D tys kw A ret) {x : Int64} (hdg : decode cc pc = .ok (.l2i, 1)) (h : Cr p l e R s m args below meth c nL D kw A vo (pc + 1) lv (.int x.toInt32 :: st) σ k) : Cr p l e R s m args below meth c nL D kw A vo pc lv (.long x :: st) σ k :=
  fun ls H locs hl hP hS r σ' hk => lv_l2i X.1.1 X.1.2.1 hdg rfl (h ls H locs hl hP hS r σ' hk)
theorem r_ladd (X : CX p s m args meth c cc nL own D tys kw A ret) {x y : Int64} (hdg : decode cc pc = .ok (.ladd, 1)) (h : Cr p l e R s m args below meth c nL D kw A vo (pc + 1) lv (.long (x + y) :: st) σ k) : Cr p l e R s m args below meth c nL D kw A vo pc lv (.long y :: .long x :: st) σ k :=
  fun ls H locs hl hP hS r σ' hk => lv_ladd X.1.1 X.1.2.1 hdg (h ls H locs hl hP hS r σ' hk)
theorem r_lcmp (X : CX p s m args meth c cc nL own D tys kw A ret) {x y : Int64} (hdg : decode cc pc = .ok (.lcmp, 1)) (h : Cr p l e R s m args below meth c nL D kw A vo (pc + 1) lv (.int (lg_cmp x y) :: st) σ k) : Cr p l e R s m args below meth c nL D kw A vo pc lv (.long y :: .long x :: st) σ k :=
  fun ls H locs hl hP hS r σ' hk => W.lcmp X.1.1 X.1.2.1 hdg (h ls H locs hl hP hS r σ' hk)
theorem r_dup (X : CX p s m args meth c cc nL own D tys kw A ret) {v : Value} (hdg : decode cc pc = .ok (.dup, 1)) (hv : v.category = 1) (h : Cr p l e R s m args below meth c nL D kw A vo (pc + 1) lv (v :: v :: st) σ k) : Cr p l e R s m args below meth c nL D kw A vo pc lv (v :: st) σ k :=
  fun ls H locs hl hP hS r σ' hk => lv_dup X.1.1 X.1.2.1 hdg hv (h ls H locs hl hP hS r σ' hk)
theorem r_dup2 (X : CX p s m args meth c cc nL own D tys kw A ret) {v w : Value} (hdg : decode cc pc = .ok (.dup2, 1)) (hv : v.category = 1) (hw : w.category = 1) (h : Cr p l e R s m args below meth c nL D kw A vo (pc + 1) lv (v :: w :: v :: w :: st) σ k) : Cr p l e R s m args below meth c nL D kw A vo pc lv (v :: w :: st) σ k :=
  fun ls H locs hl hP hS r σ' hk => lv_dup2_11 X.1.1 X.1.2.1 hdg hv hw (h ls H locs hl hP hS r σ' hk)
theorem r_pop (X : CX p s m args meth c cc nL own D tys kw A ret) {v : Value} (hdg : decode cc pc = .ok (.pop, 1)) (hv : v.category = 1) (h : Cr p l e R s m args below meth c nL D kw A vo (pc + 1) lv (st) σ k) : Cr p l e R s m args below meth c nL D kw A vo pc lv (v :: st) σ k :=
  fun ls H locs hl hP hS r σ' hk => lv_pop X.1.1 X.1.2.1 hdg hv (h ls H locs hl hP hS r σ' hk)
theorem r_goto (X : CX p s m args meth c cc nL own D tys kw A ret) {off : Int} {tgt : Nat} (hdg : decode cc pc = .ok (.goto off, 3)) (ht : (pc : Int) + off = (tgt : Int)) (h : Cr p l e R s m args below meth c nL D kw A vo (tgt) lv (st) σ k) : Cr p l e R s m args below meth c nL D kw A vo pc lv (st) σ k :=
  fun ls H locs hl hP hS r σ' hk => lv_goto X.1.1 X.1.2.1 hdg ht (h ls H locs hl hP hS r σ' hk)
theorem r_istore_n (X : CX p s m args meth c cc nL own D tys kw A ret) {lv' : List (Nat × Value)} {i : Nat} {x : Int32} {kk : Fin 4} (hdg : decode cc pc = .ok (.istore_n kk, 1)) (hi : (kk : Nat) = i) (hn : i < nL) (hl9 : (i, Value.int x) :: lv.filter (fun q => !(q.1 == i) && !(q.1 + 1 == i && q.2.category == 2)) = lv') (h : Cr p l e R s m args below meth c nL D kw A vo (pc + 1) lv' st σ k) : Cr p l e R s m args below meth c nL D kw A vo pc lv (.int x :: st) σ k :=
  fun ls H locs hl hP hS r σ' hk => lv_istore_n X.1.1 X.1.2.1 hdg hi hl hn hl9 (fun ls' hl' => h ls' H locs hl' hP hS r σ' hk)
theorem r_istore (X : CX p s m args meth c cc nL own D tys kw A ret) {lv' : List (Nat × Value)} {i : Nat} {x : Int32} (hdg : decode cc pc = .ok (.istore i, 2)) (hn : i < nL) (hl9 : (i, Value.int x) :: lv.filter (fun q => !(q.1 == i) && !(q.1 + 1 == i && q.2.category == 2)) = lv') (h : Cr p l e R s m args below meth c nL D kw A vo (pc + 2) lv' st σ k) : Cr p l e R s m args below meth c nL D kw A vo pc lv (.int x :: st) σ k :=
  fun ls H locs hl hP hS r σ' hk => lv_istore X.1.1 X.1.2.1 hdg hl hn hl9 (fun ls' hl' => h ls' H locs hl' hP hS r σ' hk)
theorem r_lstore_n (X : CX p s m args meth c cc nL own D tys kw A ret) {lv' : List (Nat × Value)} {i : Nat} {x : Int64} {kk : Fin 4} (hdg : decode cc pc = .ok (.lstore_n kk, 1)) (hi : (kk : Nat) = i) (hn : i + 1 < nL) (hl9 : (i, Value.long x) :: lv.filter (fun q => !(q.1 == i) && (!(q.1 == i + 1) && !(q.1 + 1 == i && q.2.category == 2))) = lv') (h : Cr p l e R s m args below meth c nL D kw A vo (pc + 1) lv' st σ k) : Cr p l e R s m args below meth c nL D kw A vo pc lv (.long x :: st) σ k :=
  fun ls H locs hl hP hS r σ' hk => lv_lstore_n X.1.1 X.1.2.1 hdg hi hl hn hl9 (fun ls' hl' => h ls' H locs hl' hP hS r σ' hk)
theorem r_iinc (X : CX p s m args meth c cc nL own D tys kw A ret) {lv' : List (Nat × Value)} {i j : Nat} {n : Int} {x v : Int32} (hdg : decode cc pc = .ok (.iinc i n, 3)) (hj : lv[j]? = some (i, .int x)) (hv : x + Int32.ofInt n = v) (hn : i < nL) (hl9 : (i, Value.int v) :: lv.filter (fun q => !(q.1 == i) && !(q.1 + 1 == i && q.2.category == 2)) = lv') (h : Cr p l e R s m args below meth c nL D kw A vo (pc + 3) lv' st σ k) : Cr p l e R s m args below meth c nL D kw A vo pc lv (st) σ k :=
  fun ls H locs hl hP hS r σ' hk => lv_iinc X.1.1 X.1.2.1 hdg hl hj hv hn hl9 (fun ls' hl' => h ls' H locs hl' hP hS r σ' hk)
theorem r_icmp_eq (X : CX p s m args meth c cc nL own D tys kw A ret) {x y : Int32} {off : Int} {tgt : Nat} {k1 k2 : KR} (hdg : decode cc pc = .ok (.if_icmp .eq off, 3)) (ht : (pc : Int) + off = (tgt : Int)) (h1 : (x = y) → Cr p l e R s m args below meth c nL D kw A vo tgt lv st σ k1) (h2 : ¬ (x = y) → Cr p l e R s m args below meth c nL D kw A vo (pc + 3) lv st σ k2) : Cr p l e R s m args below meth c nL D kw A vo pc lv (.int y :: .int x :: st) σ (if x = y then k1 else k2) :=
  fun ls H locs hl hP hS r σ' hk => lv_icmp_eq X.1.1 X.1.2.1 hdg ht (fun q => h1 q ls H locs hl hP hS r σ' ((if_pos q).symm.trans hk)) (fun q => h2 q ls H locs hl hP hS r σ' ((if_neg q).symm.trans hk))
theorem r_if_eq (X : CX p s m args meth c cc nL own D tys kw A ret) {x : Int32} {off : Int} {tgt : Nat} {k1 k2 : KR} (hdg : decode cc pc = .ok (.ifCond .eq off, 3)) (ht : (pc : Int) + off = (tgt : Int)) (h1 : (x = 0) → Cr p l e R s m args below meth c nL D kw A vo tgt lv st σ k1) (h2 : ¬ (x = 0) → Cr p l e R s m args below meth c nL D kw A vo (pc + 3) lv st σ k2) : Cr p l e R s m args below meth c nL D kw A vo pc lv (.int x :: st) σ (if x = 0 then k1 else k2) :=
  fun ls H locs hl hP hS r σ' hk => lv_if_eq X.1.1 X.1.2.1 hdg ht (fun q => h1 q ls H locs hl hP hS r σ' ((if_pos q).symm.trans hk)) (fun q => h2 q ls H locs hl hP hS r σ' ((if_neg q).symm.trans hk))
theorem r_icmp_lt (X : CX p s m args meth c cc nL own D tys kw A ret) {x y : Int32} {off : Int} {tgt : Nat} {k1 k2 : KR} (hdg : decode cc pc = .ok (.if_icmp .lt off, 3)) (ht : (pc : Int) + off = (tgt : Int)) (h1 : (x < y) → Cr p l e R s m args below meth c nL D kw A vo tgt lv st σ k1) (h2 : ¬ (x < y) → Cr p l e R s m args below meth c nL D kw A vo (pc + 3) lv st σ k2) : Cr p l e R s m args below meth c nL D kw A vo pc lv (.int y :: .int x :: st) σ (if x < y then k1 else k2) :=
  fun ls H locs hl hP hS r σ' hk => lv_icmp_lt X.1.1 X.1.2.1 hdg ht (fun q => h1 q ls H locs hl hP hS r σ' ((if_pos q).symm.trans hk)) (fun q => h2 q ls H locs hl hP hS r σ' ((if_neg q).symm.trans hk))
theorem r_if_lt (X : CX p s m args meth c cc nL own D tys kw A ret) {x : Int32} {off : Int} {tgt : Nat} {k1 k2 : KR} (hdg : decode cc pc = .ok (.ifCond .lt off, 3)) (ht : (pc : Int) + off = (tgt : Int)) (h1 : (x < 0) → Cr p l e R s m args below meth c nL D kw A vo tgt lv st σ k1) (h2 : ¬ (x < 0) → Cr p l e R s m args below meth c nL D kw A vo (pc + 3) lv st σ k2) : Cr p l e R s m args below meth c nL D kw A vo pc lv (.int x :: st) σ (if x < 0 then k1 else k2) :=
  fun ls H locs hl hP hS r σ' hk => lv_if_lt X.1.1 X.1.2.1 hdg ht (fun q => h1 q ls H locs hl hP hS r σ' ((if_pos q).symm.trans hk)) (fun q => h2 q ls H locs hl hP hS r σ' ((if_neg q).symm.trans hk))
theorem r_icmp_ge (X : CX p s m args meth c cc nL own D tys kw A ret) {x y : Int32} {off : Int} {tgt : Nat} {k1 k2 : KR} (hdg : decode cc pc = .ok (.if_icmp .ge off, 3)) (ht : (pc : Int) + off = (tgt : Int)) (h1 : (y ≤ x) → Cr p l e R s m args below meth c nL D kw A vo tgt lv st σ k1) (h2 : ¬ (y ≤ x) → Cr p l e R s m args below meth c nL D kw A vo (pc + 3) lv st σ k2) : Cr p l e R s m args below meth c nL D kw A vo pc lv (.int y :: .int x :: st) σ (if y ≤ x then k1 else k2) :=
  fun ls H locs hl hP hS r σ' hk => lv_icmp_ge X.1.1 X.1.2.1 hdg ht (fun q => h1 q ls H locs hl hP hS r σ' ((if_pos q).symm.trans hk)) (fun q => h2 q ls H locs hl hP hS r σ' ((if_neg q).symm.trans hk))
theorem r_if_ge (X : CX p s m args meth c cc nL own D tys kw A ret) {x : Int32} {off : Int} {tgt : Nat} {k1 k2 : KR} (hdg : decode cc pc = .ok (.ifCond .ge off, 3)) (ht : (pc : Int) + off = (tgt : Int)) (h1 : (0 ≤ x) → Cr p l e R s m args below meth c nL D kw A vo tgt lv st σ k1) (h2 : ¬ (0 ≤ x) → Cr p l e R s m args below meth c nL D kw A vo (pc + 3) lv st σ k2) : Cr p l e R s m args below meth c nL D kw A vo pc lv (.int x :: st) σ (if 0 ≤ x then k1 else k2) :=
  fun ls H locs hl hP hS r σ' hk => lv_if_ge X.1.1 X.1.2.1 hdg ht (fun q => h1 q ls H locs hl hP hS r σ' ((if_pos q).symm.trans hk)) (fun q => h2 q ls H locs hl hP hS r σ' ((if_neg q).symm.trans hk))
theorem r_icmp_gt (X : CX p s m args meth c cc nL own D tys kw A ret) {x y : Int32} {off : Int} {tgt : Nat} {k1 k2 : KR} (hdg : decode cc pc = .ok (.if_icmp .gt off, 3)) (ht : (pc : Int) + off = (tgt : Int)) (h1 : (y < x) → Cr p l e R s m args below meth c nL D kw A vo tgt lv st σ k1) (h2 : ¬ (y < x) → Cr p l e R s m args below meth c nL D kw A vo (pc + 3) lv st σ k2) : Cr p l e R s m args below meth c nL D kw A vo pc lv (.int y :: .int x :: st) σ (if y < x then k1 else k2) :=
  fun ls H locs hl hP hS r σ' hk => lv_icmp_gt X.1.1 X.1.2.1 hdg ht (fun q => h1 q ls H locs hl hP hS r σ' ((if_pos q).symm.trans hk)) (fun q => h2 q ls H locs hl hP hS r σ' ((if_neg q).symm.trans hk))
theorem r_if_gt (X : CX p s m args meth c cc nL own D tys kw A ret) {x : Int32} {off : Int} {tgt : Nat} {k1 k2 : KR} (hdg : decode cc pc = .ok (.ifCond .gt off, 3)) (ht : (pc : Int) + off = (tgt : Int)) (h1 : (0 < x) → Cr p l e R s m args below meth c nL D kw A vo tgt lv st σ k1) (h2 : ¬ (0 < x) → Cr p l e R s m args below meth c nL D kw A vo (pc + 3) lv st σ k2) : Cr p l e R s m args below meth c nL D kw A vo pc lv (.int x :: st) σ (if 0 < x then k1 else k2) :=
  fun ls H locs hl hP hS r σ' hk => lv_if_gt X.1.1 X.1.2.1 hdg ht (fun q => h1 q ls H locs hl hP hS r σ' ((if_pos q).symm.trans hk)) (fun q => h2 q ls H locs hl hP hS r σ' ((if_neg q).symm.trans hk))
theorem r_icmp_le (X : CX p s m args meth c cc nL own D tys kw A ret) {x y : Int32} {off : Int} {tgt : Nat} {k1 k2 : KR} (hdg : decode cc pc = .ok (.if_icmp .le off, 3)) (ht : (pc : Int) + off = (tgt : Int)) (h1 : (x ≤ y) → Cr p l e R s m args below meth c nL D kw A vo tgt lv st σ k1) (h2 : ¬ (x ≤ y) → Cr p l e R s m args below meth c nL D kw A vo (pc + 3) lv st σ k2) : Cr p l e R s m args below meth c nL D kw A vo pc lv (.int y :: .int x :: st) σ (if x ≤ y then k1 else k2) :=
  fun ls H locs hl hP hS r σ' hk => lv_icmp_le X.1.1 X.1.2.1 hdg ht (fun q => h1 q ls H locs hl hP hS r σ' ((if_pos q).symm.trans hk)) (fun q => h2 q ls H locs hl hP hS r σ' ((if_neg q).symm.trans hk))
theorem r_if_le (X : CX p s m args meth c cc nL own D tys kw A ret) {x : Int32} {off : Int} {tgt : Nat} {k1 k2 : KR} (hdg : decode cc pc = .ok (.ifCond .le off, 3)) (ht : (pc : Int) + off = (tgt : Int)) (h1 : (x ≤ 0) → Cr p l e R s m args below meth c nL D kw A vo tgt lv st σ k1) (h2 : ¬ (x ≤ 0) → Cr p l e R s m args below meth c nL D kw A vo (pc + 3) lv st σ k2) : Cr p l e R s m args below meth c nL D kw A vo pc lv (.int x :: st) σ (if x ≤ 0 then k1 else k2) :=
  fun ls H locs hl hP hS r σ' hk => lv_if_le X.1.1 X.1.2.1 hdg ht (fun q => h1 q ls H locs hl hP hS r σ' ((if_pos q).symm.trans hk)) (fun q => h2 q ls H locs hl hP hS r σ' ((if_neg q).symm.trans hk))
theorem r_icmp_ne (X : CX p s m args meth c cc nL own D tys kw A ret) {x y : Int32} {off : Int} {tgt : Nat} {k1 k2 : KR} (hdg : decode cc pc = .ok (.if_icmp .ne off, 3)) (ht : (pc : Int) + off = (tgt : Int)) (h1 : (x = y) → Cr p l e R s m args below meth c nL D kw A vo (pc + 3) lv st σ k1) (h2 : ¬ (x = y) → Cr p l e R s m args below meth c nL D kw A vo tgt lv st σ k2) : Cr p l e R s m args below meth c nL D kw A vo pc lv (.int y :: .int x :: st) σ (if x = y then k1 else k2) :=
  fun ls H locs hl hP hS r σ' hk => lv_icmp_ne X.1.1 X.1.2.1 hdg ht (fun q => h2 q ls H locs hl hP hS r σ' ((if_neg q).symm.trans hk)) (fun q => h1 q ls H locs hl hP hS r σ' ((if_pos q).symm.trans hk))
theorem r_if_ne (X : CX p s m args meth c cc nL own D tys kw A ret) {x : Int32} {off : Int} {tgt : Nat} {k1 k2 : KR} (hdg : decode cc pc = .ok (.ifCond .ne off, 3)) (ht : (pc : Int) + off = (tgt : Int)) (h1 : (x = 0) → Cr p l e R s m args below meth c nL D kw A vo (pc + 3) lv st σ k1) (h2 : ¬ (x = 0) → Cr p l e R s m args below meth c nL D kw A vo tgt lv st σ k2) : Cr p l e R s m args below meth c nL D kw A vo pc lv (.int x :: st) σ (if x = 0 then k1 else k2) :=
  fun ls H locs hl hP hS r σ' hk => lv_if_ne X.1.1 X.1.2.1 hdg ht (fun q => h2 q ls H locs hl hP hS r σ' ((if_neg q).symm.trans hk)) (fun q => h1 q ls H locs hl hP hS r σ' ((if_pos q).symm.trans hk))
theorem r_t {P : Prop} [Decidable P] {k1 k2 : KR} (hp : P) (h : Cr p l e R s m args below meth c nL D kw A vo pc lv st σ (if P then k1 else k2)) : Cr p l e R s m args below meth c nL D kw A vo pc lv st σ k1 := by rw [if_pos hp] at h; exact h
theorem r_f {P : Prop} [Decidable P] {k1 k2 : KR} (hp : ¬ P) (h : Cr p l e R s m args below meth c nL D kw A vo pc lv st σ (if P then k1 else k2)) : Cr p l e R s m args below meth c nL D kw A vo pc lv st σ k2 := by rw [if_neg hp] at h; exact h
theorem r_tabIn (X : CX p s m args meth c cc nL own D tys kw A ret) {dflt lo hi : Int} {offs : Array Int} {len : Nat} {x : Int32} {off : Int} {tgt : Nat} (hdg : decode cc pc = .ok (.tableswitch dflt lo hi offs, len)) (h1 : ¬ x.toInt < lo) (h2 : ¬ hi < x.toInt) (ho : offs[(x.toInt - lo).toNat]? = some off) (ht : (pc : Int) + off = (tgt : Int)) (h : Cr p l e R s m args below meth c nL D kw A vo tgt lv st σ k) : Cr p l e R s m args below meth c nL D kw A vo pc lv (.int x :: st) σ k :=
  fun ls H locs hl hP hS r σ' hk => lv_tableIn X.1.1 X.1.2.1 hdg h1 h2 ho ht (h ls H locs hl hP hS r σ' hk)
theorem r_tabOut (X : CX p s m args meth c cc nL own D tys kw A ret) {dflt lo hi : Int} {offs : Array Int} {len : Nat} {x : Int32} {tgt : Nat} (hdg : decode cc pc = .ok (.tableswitch dflt lo hi offs, len)) (h0 : x.toInt < lo ∨ hi < x.toInt) (ht : (pc : Int) + dflt = (tgt : Int)) (h : Cr p l e R s m args below meth c nL D kw A vo tgt lv st σ k) : Cr p l e R s m args below meth c nL D kw A vo pc lv (.int x :: st) σ k :=
  fun ls H locs hl hP hS r σ' hk => lv_tableOut X.1.1 X.1.2.1 hdg h0 ht (h ls H locs hl hP hS r σ' hk)
theorem r_look (X : CX p s m args meth c cc nL own D tys kw A ret) {dflt : Int} {ps : Array (Int × Int)} {len : Nat} {x : Int32} {off : Int} {tgt : Nat} (hdg : decode cc pc = .ok (.lookupswitch dflt ps, len)) (hp : (ps.toList.zip (ps.toList.drop 1)).all (fun (a, next) => a.1 < next.1) = true) (ho : Op.lookupswitch.offset ps.toList dflt x.toInt = off) (ht : (pc : Int) + off = (tgt : Int)) (h : Cr p l e R s m args below meth c nL D kw A vo tgt lv st σ k) : Cr p l e R s m args below meth c nL D kw A vo pc lv (.int x :: st) σ k :=
  fun ls H locs hl hP hS r σ' hk => lv_lookup X.1.1 X.1.2.1 hdg hp ho ht (h ls H locs hl hP hS r σ' hk)
theorem r_iald (X : CX p s m args meth c cc nL own D tys kw A ret) {a q0 t0 kk n : Nat} {cA : ClassId} {i : Int32} (hq : (kw σ)[q0]? = some (a, .inl (cA, n, .inl (σ.1 kk)))) (ht : tys[t0]? = some (cA, .int)) (hdg : decode cc pc = .ok (.iaload, 1)) (h : Cr p l e R s m args below meth c nL D kw A vo (pc + 1) lv (.int (rd σ kk i) :: st) σ k) : Cr p l e R s m args below meth c nL D kw A vo pc lv (.int i :: .ref a :: st) σ (chk i n k) :=
  fun ls H locs hl hP hS r σ' hk => va_iald X.1.1 X.1.2.1 X.2.1 hP q0 t0 hq ht (chk_some hk).1 hdg (h ls H locs hl hP hS r σ' (chk_some hk).2)
theorem r_zald (X : CX p s m args meth c cc nL own D tys kw A ret) {a q0 t0 kk n : Nat} {cA : ClassId} {i : Int32} (hq : (kw σ)[q0]? = some (a, .inl (cA, n, .inl (σ.1 kk)))) (ht : tys[t0]? = some (cA, .boolean)) (hdg : decode cc pc = .ok (.baload, 1)) (h : Cr p l e R s m args below meth c nL D kw A vo (pc + 1) lv (.int (rd σ kk i) :: st) σ k) : Cr p l e R s m args below meth c nL D kw A vo pc lv (.int i :: .ref a :: st) σ (chk i n k) :=
  fun ls H locs hl hP hS r σ' hk => va_zald X.1.1 X.1.2.1 X.2.1 hP q0 t0 hq ht (chk_some hk).1 hdg (h ls H locs hl hP hS r σ' (chk_some hk).2)
theorem r_iast (X : CX p s m args meth c cc nL own D tys kw A ret) {a q0 t0 kk n : Nat} {cA : ClassId} {i x : Int32} (hq : (kw σ)[q0]? = some (a, .inl (cA, n, .inl (σ.1 kk)))) (hs : ∀ f, (kw σ).set q0 (a, .inl (cA, n, .inl f)) = kw (va_up σ.1 kk f, σ.2)) (ht : tys[t0]? = some (cA, .int)) (hdg : decode cc pc = .ok (.iastore, 1)) (h : Cr p l e R s m args below meth c nL D kw A vo (pc + 1) lv st (wr σ kk i x) k) : Cr p l e R s m args below meth c nL D kw A vo pc lv (.int x :: .int i :: .ref a :: st) σ (chk i n k) :=
  fun ls H locs hl hP hS r σ' hk => va_iast X.1.1 X.1.2.1 X.2.1 hP (X.2.2.2.1 σ) hS q0 t0 hq ht (chk_some hk).1 hdg (fun H1 locs1 hP1 _ hS1 => h ls H1 locs1 hl (by rw [hs] at hP1; exact hP1) hS1 r σ' (chk_some hk).2)
theorem r_zast (X : CX p s m args meth c cc nL own D tys kw A ret) {a q0 t0 kk n : Nat} {cA : ClassId} {i x : Int32} (hq : (kw σ)[q0]? = some (a, .inl (cA, n, .inl (σ.1 kk)))) (hs : ∀ f, (kw σ).set q0 (a, .inl (cA, n, .inl f)) = kw (va_up σ.1 kk f, σ.2)) (ht : tys[t0]? = some (cA, .boolean)) (hdg : decode cc pc = .ok (.bastore, 1)) (h : Cr p l e R s m args below meth c nL D kw A vo (pc + 1) lv st (wr σ kk i x) k) : Cr p l e R s m args below meth c nL D kw A vo pc lv (.int x :: .int i :: .ref a :: st) σ (chk i n (zchk x k)) :=
  fun ls H locs hl hP hS r σ' hk => va_zast X.1.1 X.1.2.1 X.2.1 hP (X.2.2.2.1 σ) hS q0 t0 hq ht (chk_some hk).1 hdg (fun H1 locs1 hP1 _ hS1 => h ls H1 locs1 hl (by rw [zn (zchk_some (chk_some hk).2).1, hs] at hP1; exact hP1) hS1 r σ' (zchk_some (chk_some hk).2).2)
theorem r_alen (X : CX p s m args meth c cc nL own D tys kw A ret) {a q0 t0 kk n : Nat} {cA : ClassId} {ty : FieldType} {v : Int32} (hq : (kw σ)[q0]? = some (a, .inl (cA, n, .inl (σ.1 kk)))) (ht : tys[t0]? = some (cA, ty)) (hv : Int32.ofNat n = v) (hdg : decode cc pc = .ok (.arraylength, 1)) (h : Cr p l e R s m args below meth c nL D kw A vo (pc + 1) lv (.int v :: st) σ k) : Cr p l e R s m args below meth c nL D kw A vo pc lv (.ref a :: st) σ k :=
  fun ls H locs hl hP hS r σ' hk => va_alen X.1.1 X.1.2.1 X.2.1 hP q0 t0 hq ht hv hdg (h ls H locs hl hP hS r σ' hk)
theorem r_get (X : CX p s m args meth c cc nL own D tys kw A ret) {C : String} {T : u_T} {N ci ix a q0 : Nat} {fs : List Value} {v : Value} (hin : ∀ w ∈ u_ws C T N, w ∈ wA) (hc : vwCl[ci]? = some (C, T, N)) (hq : (kw σ)[q0]? = some (a, .inr (ci, fs))) (kk : Nat) (hk0 : kk < N) (hv : fs[kk]? = some v) (hm : Cond.fieldLink own ix (T kk).1 (T kk).2.1 (T kk).2.2.1 ∈ wA) (hdg : decode cc pc = .ok (.getfield ix, 3)) (h : Cr p l e R s m args below meth c nL D kw A vo (pc + 3) lv (v :: st) σ k) : Cr p l e R s m args below meth c nL D kw A vo pc lv (.ref a :: st) σ k :=
  fun ls H locs hl hP hS r σ' hk => va_get X.1.1 X.1.2.1 X.1.2.2.2.2 hin X.1.2.2.2.1 X.2.1 hP q0 hq hc kk hk0 (X.1.2.2.2.2 _ hm) (fun _ h9 => h9) hv hdg (h ls H locs hl hP hS r σ' hk)
theorem r_put (X : CX p s m args meth c cc nL own D tys kw A ret) {C : String} {T : u_T} {N ci ix a q0 j : Nat} {fs : List Value} {x : Int32} {ty0 : Nat → FieldType} (hin : ∀ w ∈ u_ws C T N, w ∈ wA) (hc : vwCl[ci]? = some (C, T, N)) (hty : ∀ k, k < N → parseFieldDescriptor (T k).2.2.1 = some (ty0 k)) (hnm : ∀ a, a < N → ∀ b, b < N → a ≠ b → (T a).2.1 ≠ (T b).2.1) (hq : (kw σ)[q0]? = some (a, .inr (ci, fs))) (kk : Nat) (hk0 : kk < N) (hs : (kw σ).set q0 (a, .inr (ci, fs.set kk (.int x))) = kw (sv σ j x)) (hm : Cond.fieldLink own ix (T kk).1 (T kk).2.1 (T kk).2.2.1 ∈ wA) (hfin : (T kk).2.2.2 = false) (hd : parseFieldDescriptor (T kk).2.2.1 = some .int) (hlen : kk < fs.length) (hdg : decode cc pc = .ok (.putfield ix, 3)) (h : Cr p l e R s m args below meth c nL D kw A vo (pc + 3) lv st (sv σ j x) k) : Cr p l e R s m args below meth c nL D kw A vo pc lv (.int x :: .ref a :: st) σ k :=
  fun ls H locs hl hP hS r σ' hk => va_put X.1.1 X.1.2.1 X.1.2.2.2.2 hin ty0 hty hnm X.1.2.2.2.1 X.2.1 hP (X.2.2.2.1 σ) hS q0 hq hc kk hk0 (X.1.2.2.2.2 _ hm) (fun _ h9 => h9) hfin hd rfl rfl hlen hdg (fun H1 locs1 hP1 _ hS1 => h ls H1 locs1 hl (by rw [hs] at hP1; exact hP1) hS1 r σ' hk)
theorem r_ireturn (X : CX p s m args meth c cc nL own D tys kw A (some .int)) {x : Int32} (hdg : decode cc pc = .ok (.ireturn, 1)) : Cr p l e R s m args below meth c nL D kw A vI pc lv [.int x] σ (some (x, σ)) :=
  fun ls H locs hl hP hS r σ' hk => by
    cases hk
    exact W.iret X.1.1 X.1.2.1 X.2.2.2.2.2 (fun t ht hW => ⟨rfl, by rw [ht]; exact hP, hS.F ht⟩) hS.2.2 hdg X.2.2.2.2.1
theorem r_zreturn (X : CX p s m args meth c cc nL own D tys kw A (some .boolean)) {x : Int32} (hx : x = 0 ∨ x = 1) (hdg : decode cc pc = .ok (.ireturn, 1)) : Cr p l e R s m args below meth c nL D kw A vI pc lv [.int x] σ (some (x, σ)) :=
  fun ls H locs hl hP hS r σ' hk => by
    cases hk
    exact W.zret X.1.1 X.1.2.1 X.2.2.2.2.2 (by rcases hx with rfl | rfl <;> rfl) (fun t ht hW => ⟨rfl, by rw [ht]; exact hP, hS.F ht⟩) hS.2.2 hdg X.2.2.2.2.1
theorem r_zreturnC (X : CX p s m args meth c cc nL own D tys kw A (some .boolean)) {x : Int32} (hdg : decode cc pc = .ok (.ireturn, 1)) : Cr p l e R s m args below meth c nL D kw A vI pc lv [.int x] σ (zchk x (some (x, σ))) :=
  fun ls H locs hl hP hS r σ' hk => r_zreturn X (zchk_some hk).1 hdg ls H locs hl hP hS r σ' (zchk_some hk).2
theorem r_return (X : CX p s m args meth c cc nL own D tys kw A none) (hdg : decode cc pc = .ok (.return_, 1)) : Cr p l e R s m args below meth c nL D kw A vV pc lv [] σ (some (0, σ)) :=
  fun ls H locs hl hP hS r σ' hk => by
    cases hk
    exact W.vret X.1.1 X.1.2.1 X.2.2.2.2.2 (fun t ht hW => ⟨rfl, by rw [ht]; exact hP, hS.F ht⟩) hS.2.2 hdg X.2.2.2.2.1
theorem k_blind {av : List Value} : FrameBlind (kPc D tys kw av σ) := fun a U g mk q => ⟨q.1, q.2.1, va_K.moved (u := U) (U := U.calling g mk a) (Vm.Alike.refl U.vm) q.2.2.1, nst.same (s := U) (U := U.calling g mk a) rfl q.2.2.2⟩
theorem k_pre (X : CX p s m args meth c cc nL own D tys kw A ret) {H : Heap} (hP : va_P D vwCl (kw σ) H) {av : List Value} : ∀ U : State, U.heap = H → s.WarmedH U.vm → kPc D tys kw av σ av.toArray U :=
  fun U hU hW => ⟨rfl, by rw [hU]; exact hP, va_K.moved hW.alike X.2.1, nst.warm hW X.2.2.1⟩
theorem r_after {pc : Nat} {lv : List (Nat × Value)} {stk rest : List Value} {H : Heap} {ls : Array Slot} {locs : List Loc} {voy : Int32 → Option Value} {a1 : Int32} {σ1 : KS} {ac : Array Value} {r : Int32} {σ' : KS}
    (run : va_Run p l e R s m args below meth c H locs 0 0 0 0 (F0 m pc ls stk) rest (kQ D kw A voy a1 σ1 ac) A) (hl : lv_has ls nL lv) (hS : va_S A s.heap H locs) (hk : k = some (r, σ'))
    (h : Cr p l e R s m args below meth c nL D kw A vo (pc + 3) lv ((voy a1).toList ++ rest) σ1 k) :
    W p l e R s m args below meth c H locs 0 0 (MQ below (kQ D kw A vo r σ') args s 0 0 A) (F0 m pc ls stk) := by
  intro T hT XX
  obtain ⟨v, st₀, t, T', L, h0, X', hL, e1, e2, ⟨hv, hP1, hz, hk1⟩, stp⟩ := run T hT XX
  cases hv
  rw [h0] at hz hk1
  obtain ⟨t2, a2, b2⟩ := h ls T'.heap (locs ++ L) hl (by rw [e1]; exact hP1)
    ⟨Nat.le_trans hS.1 (by rw [e1]; exact hz), fun q h1 h2 => by rw [e1, hk1 q (Nat.lt_of_lt_of_le h1 hS.1) h2]; exact hS.2.1 q h1 h2, fun q hq => by
      rcases List.mem_append.mp hq with h | h
      · exact hS.2.2 q h
      · exact hL q h⟩ r σ' hk T' rfl X'
  exact ⟨t2, stp t2 a2, b2⟩
theorem wsM_in {y : MethodName} {cy : ByteArray} {n : Nat} {rt : Option FieldType} (h : Cond.code y cy n rt ∈ wA) : GoodIn wA (wsM y cy n rt) := by
  intro w hw
  have hm : w ∈ wA := by
    rcases List.mem_cons.mp hw with e | e
    · rw [e]; exact h
    · exact e
  exact ⟨hm, good_of_word (wA_good w hm)⟩
theorem wA_1 {w : Cond} (h : w ∈ wA) : w ∈ wA ∧ ((w.onTables && w.keeps) = true ∨ ∃ ty, w = .arrayClass ty) := ⟨h, good_of_word (wA_good w h)⟩
theorem cW {y : MethodName} {cy : ByteArray} {nLy idx n d : Nat} {rt : Option FieldType} {C : String} (hts : ∀ w ∈ wA, w.before args s = true) (h1 : Cond.methodLink own idx y ∈ wA) (h2 : Cond.instanceMethod y ∈ wA) (h3 : Cond.selects C y y ∈ wA) (h4 : Cond.initialized C ∈ wA) (h5 : Cond.code y cy nLy rt ∈ wA)
    (hd : y.cls = C ∧ y.cls ≠ "java/lang/invoke/MethodHandle" ∧ y.cls ≠ "java/lang/invoke/VarHandle" ∧ (parseMethodDescriptor y.desc).map (fun d => d.parameters.length) = some n) (hR : (rmd d).frames + 1 ≤ R.frames ∧ 8 + (nLy + 11) + (rmd d).locals ≤ R.locals) :
    CallW R s args own C idx y cy nLy rt (wsM y cy nLy rt) (rmd d) 0 0 n := by
  refine cwV n hts ?_ rfl rfl rfl hd hR
  intro w hw
  unfold wsV at hw
  rcases List.mem_append.mp hw with hw | hw
  · rcases List.mem_cons.mp hw with e | hw
    · rw [e]; exact wA_1 h1
    rcases List.mem_cons.mp hw with e | hw
    · rw [e]; exact wA_1 h2
    rcases List.mem_cons.mp hw with e | hw
    · rw [e]; exact wA_1 h3
    rcases List.mem_cons.mp hw with e | hw
    · rw [e]; exact wA_1 h4
    exact absurd hw List.not_mem_nil
  · exact wsM_in h5 w hw
theorem cS {y : MethodName} {cy : ByteArray} {nLy idx n d : Nat} {rt : Option FieldType} (hts : ∀ w ∈ wA, w.before args s = true) (h1 : Cond.methodLink own idx y ∈ wA) (h2 : Cond.static y ∈ wA) (h4 : Cond.initialized y.cls ∈ wA) (h5 : Cond.code y cy nLy rt ∈ wA)
    (hd : y.cls ≠ "java/lang/invoke/MethodHandle" ∧ y.cls ≠ "java/lang/invoke/VarHandle" ∧ (parseMethodDescriptor y.desc).map (fun d => d.parameters.length) = some n) (hR : (rmd d).frames + 1 ≤ R.frames ∧ 8 + (nLy + 11) + (rmd d).locals ≤ R.locals) :
    CallB R s args own idx y cy nLy rt (wsM y cy nLy rt) (rmd d) 0 0 n ∧ (Cond.static y).before args s = true := by
  refine va_cwS n hts ?_ rfl rfl rfl hd hR
  intro w hw
  unfold va_wsS at hw
  rcases List.mem_append.mp hw with hw | hw
  · rcases List.mem_cons.mp hw with e | hw
    · rw [e]; exact wA_1 h1
    rcases List.mem_cons.mp hw with e | hw
    · rw [e]; exact wA_1 h2
    rcases List.mem_cons.mp hw with e | hw
    · rw [e]; exact wA_1 h4
    exact absurd hw List.not_mem_nil
  · exact wsM_in h5 w hw
theorem r_callVi (X : CX p s m args meth c cc nL own D tys kw A ret) {y : MethodName} {cy : ByteArray} {nLy idx n d a q0 ci N : Nat} {rt : Option FieldType} {C : String} {T : u_T} {As stk : List Value} {fs : List Value} {kc : KR} {f : Int32 → KS → KR}
    (hM : Ct l D tys kw A y cy nLy rt d vI (.ref a :: As) σ kc) (h1 : Cond.methodLink own idx y ∈ wA) (h2 : Cond.instanceMethod y ∈ wA) (h3 : Cond.selects C y y ∈ wA) (h4 : Cond.initialized C ∈ wA) (h5 : Cond.code y cy nLy rt ∈ wA)
    (hd : y.cls = C ∧ y.cls ≠ "java/lang/invoke/MethodHandle" ∧ y.cls ≠ "java/lang/invoke/VarHandle" ∧ (parseMethodDescriptor y.desc).map (fun d => d.parameters.length) = some n) (hR : (rmd d).frames + 1 ≤ R.frames ∧ 8 + (nLy + 11) + (rmd d).locals ≤ R.locals)
    (hq : (kw σ)[q0]? = some (a, .inr (ci, fs))) (hc : vwCl[ci]? = some (C, T, N)) (hn : As.length = n) (hst : stk = As.reverse ++ .ref a :: st) (hroom : (st.map fun v => v.category).sum ≤ 8) (hdg : decode cc pc = .ok (.invokevirtual idx, 3))
    (h : ∀ r σ1, kc = some (r, σ1) → Cr p l e R s m args below meth c nL D kw A vo (pc + 3) lv (.int r :: st) σ1 (f r σ1)) : Cr p l e R s m args below meth c nL D kw A vo pc lv stk σ (bnd kc f) := by
  intro ls H locs hl hP hS r σ' hk
  obtain ⟨a1, σ1, e1, e2⟩ := bnd_some hk
  exact r_after (va_runV (As := As) (rest := st) X.1 (hM a1 σ1 e1) (cW X.1.2.2.2.2 h1 h2 h3 h4 h5 hd hR) ⟨k_blind, va_recv X.2.1 hP hc hq, k_pre X hP⟩ rfl hn hl.1 hst (lv_room hroom) hdg ⟨Nat.zero_le _, Nat.zero_le _⟩) hl hS e2 (h a1 σ1 e1)
theorem r_callSi (X : CX p s m args meth c cc nL own D tys kw A ret) {y : MethodName} {cy : ByteArray} {nLy idx n d : Nat} {rt : Option FieldType} {As stk : List Value} {kc : KR} {f : Int32 → KS → KR}
    (hM : Ct l D tys kw A y cy nLy rt d vI As σ kc) (h1 : Cond.methodLink own idx y ∈ wA) (h2 : Cond.static y ∈ wA) (h4 : Cond.initialized y.cls ∈ wA) (h5 : Cond.code y cy nLy rt ∈ wA)
    (hd : y.cls ≠ "java/lang/invoke/MethodHandle" ∧ y.cls ≠ "java/lang/invoke/VarHandle" ∧ (parseMethodDescriptor y.desc).map (fun d => d.parameters.length) = some n) (hR : (rmd d).frames + 1 ≤ R.frames ∧ 8 + (nLy + 11) + (rmd d).locals ≤ R.locals)
    (hn : As.length = n) (hst : stk = As.reverse ++ st) (hroom : (st.map fun v => v.category).sum ≤ 8) (hdg : decode cc pc = .ok (.invokestatic idx, 3))
    (h : ∀ r σ1, kc = some (r, σ1) → Cr p l e R s m args below meth c nL D kw A vo (pc + 3) lv (.int r :: st) σ1 (f r σ1)) : Cr p l e R s m args below meth c nL D kw A vo pc lv stk σ (bnd kc f) := by
  intro ls H locs hl hP hS r σ' hk
  obtain ⟨a1, σ1, e1, e2⟩ := bnd_some hk
  exact r_after (va_runS (As := As) (rest := st) X.1 (hM a1 σ1 e1) (cS X.1.2.2.2.2 h1 h2 h4 h5 hd hR) ⟨k_blind, k_pre X hP⟩ rfl hn hl.1 hst (lv_room hroom) hdg ⟨Nat.zero_le _, Nat.zero_le _⟩) hl hS e2 (h a1 σ1 e1)
theorem r_callNi (X : CX p s m args meth c cc nL own D tys kw A ret) {y : MethodName} {host : String} {cy : ByteArray} {nLy idx n d : Nat} {rt : Option FieldType} {As stk : List Value} {kc : KR} {f : Int32 → KS → KR}
    (hM : Ct l D tys kw A y cy nLy rt d vI As σ kc) (h1 : va_Nw (.methodLinkNest own idx y host) s) (h2 : Cond.static y ∈ wA) (h4 : Cond.initialized y.cls ∈ wA) (h5 : Cond.code y cy nLy rt ∈ wA)
    (hd : y.cls ≠ "java/lang/invoke/MethodHandle" ∧ y.cls ≠ "java/lang/invoke/VarHandle" ∧ (parseMethodDescriptor y.desc).map (fun d => d.parameters.length) = some n) (hR : (rmd d).frames + 1 ≤ R.frames ∧ 8 + (nLy + 11) + (rmd d).locals ≤ R.locals)
    (hn : As.length = n) (hst : stk = As.reverse ++ st) (hroom : (st.map fun v => v.category).sum ≤ 8) (hdg : decode cc pc = .ok (.invokestatic idx, 3))
    (h : ∀ r σ1, kc = some (r, σ1) → Cr p l e R s m args below meth c nL D kw A vo (pc + 3) lv (.int r :: st) σ1 (f r σ1)) : Cr p l e R s m args below meth c nL D kw A vo pc lv stk σ (bnd kc f) := by
  intro ls H locs hl hP hS r σ' hk
  obtain ⟨a1, σ1, e1, e2⟩ := bnd_some hk
  exact r_after (va_runSN (As := As) (rest := st) X.1 (hM a1 σ1 e1) ⟨va_cnB n X.1.2.2.2.2 (wsM_in h5) rfl rfl rfl h1 (X.1.2.2.2.2 _ h4) hd hR, X.1.2.2.2.2 _ h2, trivial⟩ ⟨k_blind, k_pre X hP⟩ rfl hn hl.1 hst (lv_room hroom) hdg ⟨Nat.zero_le _, Nat.zero_le _⟩) hl hS e2 (h a1 σ1 e1)
theorem r_callVv (X : CX p s m args meth c cc nL own D tys kw A ret) {y : MethodName} {cy : ByteArray} {nLy idx n d a q0 ci N : Nat} {rt : Option FieldType} {C : String} {T : u_T} {As stk : List Value} {fs : List Value} {kc : KR} {f : Int32 → KS → KR}
    (hM : Ct l D tys kw A y cy nLy rt d vV (.ref a :: As) σ kc) (h1 : Cond.methodLink own idx y ∈ wA) (h2 : Cond.instanceMethod y ∈ wA) (h3 : Cond.selects C y y ∈ wA) (h4 : Cond.initialized C ∈ wA) (h5 : Cond.code y cy nLy rt ∈ wA)
    (hd : y.cls = C ∧ y.cls ≠ "java/lang/invoke/MethodHandle" ∧ y.cls ≠ "java/lang/invoke/VarHandle" ∧ (parseMethodDescriptor y.desc).map (fun d => d.parameters.length) = some n) (hR : (rmd d).frames + 1 ≤ R.frames ∧ 8 + (nLy + 11) + (rmd d).locals ≤ R.locals)
    (hq : (kw σ)[q0]? = some (a, .inr (ci, fs))) (hc : vwCl[ci]? = some (C, T, N)) (hn : As.length = n) (hst : stk = As.reverse ++ .ref a :: st) (hroom : (st.map fun v => v.category).sum ≤ 8) (hdg : decode cc pc = .ok (.invokevirtual idx, 3))
    (h : ∀ r σ1, kc = some (r, σ1) → Cr p l e R s m args below meth c nL D kw A vo (pc + 3) lv st σ1 (f r σ1)) : Cr p l e R s m args below meth c nL D kw A vo pc lv stk σ (bnd kc f) := by
  intro ls H locs hl hP hS r σ' hk
  obtain ⟨a1, σ1, e1, e2⟩ := bnd_some hk
  exact r_after (va_runV (As := As) (rest := st) X.1 (hM a1 σ1 e1) (cW X.1.2.2.2.2 h1 h2 h3 h4 h5 hd hR) ⟨k_blind, va_recv X.2.1 hP hc hq, k_pre X hP⟩ rfl hn hl.1 hst (lv_room hroom) hdg ⟨Nat.zero_le _, Nat.zero_le _⟩) hl hS e2 (h a1 σ1 e1)
theorem r_callSv (X : CX p s m args meth c cc nL own D tys kw A ret) {y : MethodName} {cy : ByteArray} {nLy idx n d : Nat} {rt : Option FieldType} {As stk : List Value} {kc : KR} {f : Int32 → KS → KR}
    (hM : Ct l D tys kw A y cy nLy rt d vV As σ kc) (h1 : Cond.methodLink own idx y ∈ wA) (h2 : Cond.static y ∈ wA) (h4 : Cond.initialized y.cls ∈ wA) (h5 : Cond.code y cy nLy rt ∈ wA)
    (hd : y.cls ≠ "java/lang/invoke/MethodHandle" ∧ y.cls ≠ "java/lang/invoke/VarHandle" ∧ (parseMethodDescriptor y.desc).map (fun d => d.parameters.length) = some n) (hR : (rmd d).frames + 1 ≤ R.frames ∧ 8 + (nLy + 11) + (rmd d).locals ≤ R.locals)
    (hn : As.length = n) (hst : stk = As.reverse ++ st) (hroom : (st.map fun v => v.category).sum ≤ 8) (hdg : decode cc pc = .ok (.invokestatic idx, 3))
    (h : ∀ r σ1, kc = some (r, σ1) → Cr p l e R s m args below meth c nL D kw A vo (pc + 3) lv st σ1 (f r σ1)) : Cr p l e R s m args below meth c nL D kw A vo pc lv stk σ (bnd kc f) := by
  intro ls H locs hl hP hS r σ' hk
  obtain ⟨a1, σ1, e1, e2⟩ := bnd_some hk
  exact r_after (va_runS (As := As) (rest := st) X.1 (hM a1 σ1 e1) (cS X.1.2.2.2.2 h1 h2 h4 h5 hd hR) ⟨k_blind, k_pre X hP⟩ rfl hn hl.1 hst (lv_room hroom) hdg ⟨Nat.zero_le _, Nat.zero_le _⟩) hl hS e2 (h a1 σ1 e1)
theorem r_callNv (X : CX p s m args meth c cc nL own D tys kw A ret) {y : MethodName} {host : String} {cy : ByteArray} {nLy idx n d : Nat} {rt : Option FieldType} {As stk : List Value} {kc : KR} {f : Int32 → KS → KR}
    (hM : Ct l D tys kw A y cy nLy rt d vV As σ kc) (h1 : va_Nw (.methodLinkNest own idx y host) s) (h2 : Cond.static y ∈ wA) (h4 : Cond.initialized y.cls ∈ wA) (h5 : Cond.code y cy nLy rt ∈ wA)
    (hd : y.cls ≠ "java/lang/invoke/MethodHandle" ∧ y.cls ≠ "java/lang/invoke/VarHandle" ∧ (parseMethodDescriptor y.desc).map (fun d => d.parameters.length) = some n) (hR : (rmd d).frames + 1 ≤ R.frames ∧ 8 + (nLy + 11) + (rmd d).locals ≤ R.locals)
    (hn : As.length = n) (hst : stk = As.reverse ++ st) (hroom : (st.map fun v => v.category).sum ≤ 8) (hdg : decode cc pc = .ok (.invokestatic idx, 3))
    (h : ∀ r σ1, kc = some (r, σ1) → Cr p l e R s m args below meth c nL D kw A vo (pc + 3) lv st σ1 (f r σ1)) : Cr p l e R s m args below meth c nL D kw A vo pc lv stk σ (bnd kc f) := by
  intro ls H locs hl hP hS r σ' hk
  obtain ⟨a1, σ1, e1, e2⟩ := bnd_some hk
  exact r_after (va_runSN (As := As) (rest := st) X.1 (hM a1 σ1 e1) ⟨va_cnB n X.1.2.2.2.2 (wsM_in h5) rfl rfl rfl h1 (X.1.2.2.2.2 _ h4) hd hR, X.1.2.2.2.2 _ h2, trivial⟩ ⟨k_blind, k_pre X hP⟩ rfl hn hl.1 hst (lv_room hroom) hdg ⟨Nat.zero_le _, Nat.zero_le _⟩) hl hS e2 (h a1 σ1 e1)
end CRR
