/-! constructors: rows over a world that grows -/
def CI (p : Program) (s : State) (m : MethodId) (args : Array Value) (meth : Method) (c : Code) (cc : ByteArray) (nL : Nat) (own : String) (D : va_G) (cI cZ : ClassId) (A : Nat → Prop) (ini : Bool) : Prop :=
  CallFix p m c cc nL s args wA own ∧ va_K D vwCl (tyA cI cZ) s ∧ (∀ q : Nat, s.heap.size ≤ q → A q) ∧ meth.locks = false ∧ (ini = true → meth.name = "<init>" ∧ meth.sig.returnType = none)
def Cc (p : Program) (l : Launch) (e : Env) (R : Room) (s : State) (m : MethodId) (args : Array Value) (below : List Frame) (meth : Method) (c : Code) (nL : Nat) (D : va_G) (A : Nat → Prop) (Q : State → Prop) (pc : Nat) (lv : List (Nat × Value)) (st : List Value) (ws : va_W) (cells slots : Nat) : Prop :=
  ∀ (ls : Array Slot) (H : Heap) (locs : List Loc), lv_has ls nL lv → va_P D vwCl ws H → va_D A ws → va_S A s.heap H locs → W p l e R s m args below meth c H locs cells slots Q (F0 m pc ls st)
section CTR
variable {p : Program} {l : Launch} {e : Env} {R : Room} {s : State} {m : MethodId} {args : Array Value} {below : List Frame} {meth : Method} {c : Code} {cc : ByteArray} {nL : Nat} {own : String} {D : va_G} {cI cZ : ClassId} {A : Nat → Prop} {Q : State → Prop} {ini : Bool}
variable {pc : Nat} {lv : List (Nat × Value)} {st : List Value} {ws : va_W} {cells slots : Nat}
theorem k_aload_n (X : CI p s m args meth c cc nL own D cI cZ A ini) {i j x : Nat} {kk : Fin 4} (hdg : decode cc pc = .ok (.aload_n kk, 1)) (hi : (kk : Nat) = i) (hj : lv[j]? = some (i, .ref x)) (h : Cc p l e R s m args below meth c nL D A Q (pc + 1) lv (.ref x :: st) ws cells slots) : Cc p l e R s m args below meth c nL D A Q pc lv (st) ws cells slots :=
  fun ls H locs hl hP hD hS => lv_aload_n X.1.1 X.1.2.1 hdg hi (lv_at hl j hj) (h ls H locs hl hP hD hS)
theorem k_iload_n (X : CI p s m args meth c cc nL own D cI cZ A ini) {i j : Nat} {x : Int32} {kk : Fin 4} (hdg : decode cc pc = .ok (.iload_n kk, 1)) (hi : (kk : Nat) = i) (hj : lv[j]? = some (i, .int x)) (h : Cc p l e R s m args below meth c nL D A Q (pc + 1) lv (.int x :: st) ws cells slots) : Cc p l e R s m args below meth c nL D A Q pc lv (st) ws cells slots :=
  fun ls H locs hl hP hD hS => lv_iload_n X.1.1 X.1.2.1 hdg hi (lv_at hl j hj) (h ls H locs hl hP hD hS)
theorem k_iconst (X : CI p s m args meth c cc nL own D cI cZ A ini) {n : Int} {v : Int32} (hdg : decode cc pc = .ok (.iconst n, 1)) (hv : Int32.ofInt n = v) (h : Cc p l e R s m args below meth c nL D A Q (pc + 1) lv (.int v :: st) ws cells slots) : Cc p l e R s m args below meth c nL D A Q pc lv (st) ws cells slots :=
  fun ls H locs hl hP hD hS => lv_iconst X.1.1 X.1.2.1 hdg hv (h ls H locs hl hP hD hS)
theorem k_bipush (X : CI p s m args meth c cc nL own D cI cZ A ini) {n : Int} {v : Int32} (hdg : decode cc pc = .ok (.bipush n, 2)) (hv : (Int8.ofInt n).toInt32 = v) (h : Cc p l e R s m args below meth c nL D A Q (pc + 2) lv (.int v :: st) ws cells slots) : Cc p l e R s m args below meth c nL D A Q pc lv (st) ws cells slots :=
  fun ls H locs hl hP hD hS => lv_bipush X.1.1 X.1.2.1 hdg hv (h ls H locs hl hP hD hS)
theorem k_sipush (X : CI p s m args meth c cc nL own D cI cZ A ini) {n : Int} {v : Int32} (hdg : decode cc pc = .ok (.sipush n, 3)) (hv : (Int16.ofInt n).toInt32 = v) (h : Cc p l e R s m args below meth c nL D A Q (pc + 3) lv (.int v :: st) ws cells slots) : Cc p l e R s m args below meth c nL D A Q pc lv (st) ws cells slots :=
  fun ls H locs hl hP hD hS => lv_sipush X.1.1 X.1.2.1 hdg hv (h ls H locs hl hP hD hS)
theorem k_dup (X : CI p s m args meth c cc nL own D cI cZ A ini) {v : Value} (hdg : decode cc pc = .ok (.dup, 1)) (hv : v.category = 1) (h : Cc p l e R s m args below meth c nL D A Q (pc + 1) lv (v :: v :: st) ws cells slots) : Cc p l e R s m args below meth c nL D A Q pc lv (v :: st) ws cells slots :=
  fun ls H locs hl hP hD hS => lv_dup X.1.1 X.1.2.1 hdg hv (h ls H locs hl hP hD hS)
theorem k_goto (X : CI p s m args meth c cc nL own D cI cZ A ini) {off : Int} {tgt : Nat} (hdg : decode cc pc = .ok (.goto off, 3)) (ht : (pc : Int) + off = (tgt : Int)) (h : Cc p l e R s m args below meth c nL D A Q (tgt) lv (st) ws cells slots) : Cc p l e R s m args below meth c nL D A Q pc lv (st) ws cells slots :=
  fun ls H locs hl hP hD hS => lv_goto X.1.1 X.1.2.1 hdg ht (h ls H locs hl hP hD hS)
theorem k_istore_n (X : CI p s m args meth c cc nL own D cI cZ A ini) {lv' : List (Nat × Value)} {i : Nat} {x : Int32} {kk : Fin 4} (hdg : decode cc pc = .ok (.istore_n kk, 1)) (hi : (kk : Nat) = i) (hn : i < nL) (hl9 : (i, Value.int x) :: lv.filter (fun q => !(q.1 == i) && !(q.1 + 1 == i && q.2.category == 2)) = lv') (h : Cc p l e R s m args below meth c nL D A Q (pc + 1) lv' st ws cells slots) : Cc p l e R s m args below meth c nL D A Q pc lv (.int x :: st) ws cells slots :=
  fun ls H locs hl hP hD hS => lv_istore_n X.1.1 X.1.2.1 hdg hi hl hn hl9 (fun ls' hl' => h ls' H locs hl' hP hD hS)
theorem k_astore_n (X : CI p s m args meth c cc nL own D cI cZ A ini) {lv' : List (Nat × Value)} {i x : Nat} {kk : Fin 4} (hdg : decode cc pc = .ok (.astore_n kk, 1)) (hi : (kk : Nat) = i) (hn : i < nL) (hl9 : (i, Value.ref x) :: lv.filter (fun q => !(q.1 == i) && !(q.1 + 1 == i && q.2.category == 2)) = lv') (h : Cc p l e R s m args below meth c nL D A Q (pc + 1) lv' st ws cells slots) : Cc p l e R s m args below meth c nL D A Q pc lv (.ref x :: st) ws cells slots :=
  fun ls H locs hl hP hD hS => lv_astore_n X.1.1 X.1.2.1 hdg hi hl hn hl9 (fun ls' hl' => h ls' H locs hl' hP hD hS)
theorem k_iinc (X : CI p s m args meth c cc nL own D cI cZ A ini) {lv' : List (Nat × Value)} {i j : Nat} {n : Int} {x v : Int32} (hdg : decode cc pc = .ok (.iinc i n, 3)) (hj : lv[j]? = some (i, .int x)) (hv : x + Int32.ofInt n = v) (hn : i < nL) (hl9 : (i, Value.int v) :: lv.filter (fun q => !(q.1 == i) && !(q.1 + 1 == i && q.2.category == 2)) = lv') (h : Cc p l e R s m args below meth c nL D A Q (pc + 3) lv' st ws cells slots) : Cc p l e R s m args below meth c nL D A Q pc lv st ws cells slots :=
  fun ls H locs hl hP hD hS => lv_iinc X.1.1 X.1.2.1 hdg hl hj hv hn hl9 (fun ls' hl' => h ls' H locs hl' hP hD hS)
theorem k_icmp_ge (X : CI p s m args meth c cc nL own D cI cZ A ini) {x y : Int32} {off : Int} {tgt : Nat} (hdg : decode cc pc = .ok (.if_icmp .ge off, 3)) (ht : (pc : Int) + off = (tgt : Int)) (h1 : y ≤ x → Cc p l e R s m args below meth c nL D A Q tgt lv st ws cells slots) (h2 : ¬ y ≤ x → Cc p l e R s m args below meth c nL D A Q (pc + 3) lv st ws cells slots) : Cc p l e R s m args below meth c nL D A Q pc lv (.int y :: .int x :: st) ws cells slots :=
  fun ls H locs hl hP hD hS => lv_icmp_ge X.1.1 X.1.2.1 hdg ht (fun q => h1 q ls H locs hl hP hD hS) (fun q => h2 q ls H locs hl hP hD hS)
theorem k_sub (ks : List Nat) {lv' : List (Nat × Value)} (hl : lv_pick lv ks = lv') (h : Cc p l e R s m args below meth c nL D A Q pc lv' st ws cells slots) : Cc p l e R s m args below meth c nL D A Q pc lv st ws cells slots :=
  fun ls H locs hl0 hP hD hS => h ls H locs (lv_sub hl0 ks hl) hP hD hS
theorem k_ord (is : List Nat) {ws' : va_W} (h1 : is.map (fun i => ws[i]?) = ws'.map some) (hn : va_nd is = true) (h : Cc p l e R s m args below meth c nL D A Q pc lv st ws' cells slots) : Cc p l e R s m args below meth c nL D A Q pc lv st ws cells slots :=
  fun ls H locs hl hP hD hS => h ls H locs hl (hP.sub is (by
    have : (is.map (fun i => ws[i]?)).filterMap id = (ws'.map some).filterMap id := by rw [h1]
    rw [List.filterMap_map, List.filterMap_map] at this
    have e : ws'.filterMap (id ∘ some) = ws' := List.filterMap_some
    rw [e] at this
    exact this)) (hD.sub is hn h1) hS
theorem k_get (X : CI p s m args meth c cc nL own D cI cZ A ini) {C : String} {T : u_T} {N ci ix a q0 : Nat} {fs : List Value} {v : Value} (hin : ∀ w ∈ u_ws C T N, w ∈ wA) (hc : vwCl[ci]? = some (C, T, N)) (hq : ws[q0]? = some (a, .inr (ci, fs))) (kk : Nat) (hk0 : kk < N) (hv : fs[kk]? = some v) (hm : Cond.fieldLink own ix (T kk).1 (T kk).2.1 (T kk).2.2.1 ∈ wA) (hdg : decode cc pc = .ok (.getfield ix, 3)) (h : Cc p l e R s m args below meth c nL D A Q (pc + 3) lv (v :: st) ws cells slots) : Cc p l e R s m args below meth c nL D A Q pc lv (.ref a :: st) ws cells slots :=
  fun ls H locs hl hP hD hS => va_get X.1.1 X.1.2.1 X.1.2.2.2.2 hin X.1.2.2.2.1 X.2.1 hP q0 hq hc kk hk0 (X.1.2.2.2.2 _ hm) (fun _ h9 => h9) hv hdg (h ls H locs hl hP hD hS)
theorem k_putF (X : CI p s m args meth c cc nL own D cI cZ A true) {C : String} {T : u_T} {N ci ix a q0 x : Nat} {fs : List Value} {ty0 : Nat → FieldType} {ty : FieldType} {ws' : va_W} (hin : ∀ w ∈ u_ws C T N, w ∈ wA) (hc : vwCl[ci]? = some (C, T, N)) (hty : ∀ k, k < N → parseFieldDescriptor (T k).2.2.1 = some (ty0 k)) (hnm : ∀ a, a < N → ∀ b, b < N → a ≠ b → (T a).2.1 ≠ (T b).2.1) (hq : ws[q0]? = some (a, .inr (ci, fs))) (kk : Nat) (hk0 : kk < N) (hs : ws.set q0 (a, .inr (ci, fs.set kk (.ref x))) = ws') (hm : Cond.fieldLink own ix (T kk).1 (T kk).2.1 (T kk).2.2.1 ∈ wA) (hfin : (T kk).2.2.2 = true) (hdecl : (T kk).1 = own) (hd : parseFieldDescriptor (T kk).2.2.1 = some ty) (hn : narrow ty (.ref x) = .ref x) (hfit : fits ty (.ref x) = true) (hlen : kk < fs.length) (hdg : decode cc pc = .ok (.putfield ix, 3)) (h : Cc p l e R s m args below meth c nL D A Q (pc + 3) lv st ws' cells slots) : Cc p l e R s m args below meth c nL D A Q pc lv (.ref x :: .ref a :: st) ws cells slots :=
  fun ls H locs hl hP hD hS => va_putF X.1.1 X.1.2.1 X.1.2.2.2.2 hin ty0 hty hnm X.1.2.2.2.1 X.2.1 hP hD hS q0 hq hc kk hk0 (X.1.2.2.2.2 _ hm) (fun _ h9 => h9) hfin (X.2.2.2.2 rfl).1 hdecl hd hn hfit hlen hdg (fun H1 locs1 hP1 hD1 hS1 => h ls H1 locs1 hl (hs ▸ hP1) (hs ▸ hD1) hS1)
theorem k_iast (X : CI p s m args meth c cc nL own D cI cZ A ini) {a q0 n : Nat} {f : Nat → Int32} {i x : Int32} {ws' : va_W} (hq : ws[q0]? = some (a, .inl (cI, n, .inl f))) (hi : vp_in i n) (hs : ws.set q0 (a, .inl (cI, n, .inl (upd f i.toNatClampNeg x))) = ws') (hdg : decode cc pc = .ok (.iastore, 1)) (h : Cc p l e R s m args below meth c nL D A Q (pc + 1) lv st ws' cells slots) : Cc p l e R s m args below meth c nL D A Q pc lv (.int x :: .int i :: .ref a :: st) ws cells slots :=
  fun ls H locs hl hP hD hS => va_iast X.1.1 X.1.2.1 X.2.1 hP hD hS q0 0 hq rfl hi hdg (fun H1 locs1 hP1 hD1 hS1 => h ls H1 locs1 hl (hs ▸ hP1) (hs ▸ hD1) hS1)
theorem k_zast (X : CI p s m args meth c cc nL own D cI cZ A ini) {a q0 n : Nat} {f : Nat → Int32} {i x : Int32} {ws' : va_W} (hq : ws[q0]? = some (a, .inl (cZ, n, .inl f))) (hi : vp_in i n) (hx : x = 0 ∨ x = 1) (hs : ws.set q0 (a, .inl (cZ, n, .inl (upd f i.toNatClampNeg x))) = ws') (hdg : decode cc pc = .ok (.bastore, 1)) (h : Cc p l e R s m args below meth c nL D A Q (pc + 1) lv st ws' cells slots) : Cc p l e R s m args below meth c nL D A Q pc lv (.int x :: .int i :: .ref a :: st) ws cells slots :=
  fun ls H locs hl hP hD hS => va_zast X.1.1 X.1.2.1 X.2.1 hP hD hS q0 1 hq rfl hi hdg (fun H1 locs1 hP1 hD1 hS1 => h ls H1 locs1 hl (by rw [zn hx] at hP1; exact hs ▸ hP1) (by rw [zn hx] at hD1; exact hs ▸ hD1) hS1)
theorem k_newI (X : CI p s m args meth c cc nL own D cI cZ A ini) {n : Int32} {N : Nat} (hdg : decode cc pc = .ok (.newarray .int, 2)) (hn : ¬ n < 0) (hN : n.toNatClampNeg = N) (hb : N * 4 ≤ 536870912) (hc : cells + 1 ≤ R.cells) (hs : slots + N ≤ R.slots) (h : ∀ q, Cc p l e R s m args below meth c nL D A Q (pc + 2) lv (.ref q :: st) (ws ++ [(q, .inl (cI, N, .inl (fun _ => 0)))]) (cells + 1) (slots + N)) : Cc p l e R s m args below meth c nL D A Q pc lv (.int n :: st) ws cells slots := by
  intro ls H locs hl hP hD hS
  refine va_newa (atype := .int) (a0 := (N, .inl (fun _ => 0))) (ty := .int) X.1.1 X.1.2.1 (X.1.2.2.2.2 _ ac_int) rfl X.2.1 hP hD hS X.2.2.1 (fun _ => rfl) hn hN hb hc hs hdg (fun q cA H1 hK1 hP1 hD1 hS1 => ?_)
  have e1 : s.vm.findClass "[I" = some cA := (hK1.2 2 _ rfl).2
  have e2 : s.vm.findClass "[I" = some cI := (hK1.2 0 _ rfl).2
  rw [e1] at e2
  cases e2
  exact h q ls H1 locs hl hP1 hD1 hS1
theorem k_newZ (X : CI p s m args meth c cc nL own D cI cZ A ini) {n : Int32} {N : Nat} (hdg : decode cc pc = .ok (.newarray .boolean, 2)) (hn : ¬ n < 0) (hN : n.toNatClampNeg = N) (hb : N * 1 ≤ 536870912) (hc : cells + 1 ≤ R.cells) (hs : slots + N ≤ R.slots) (h : ∀ q, Cc p l e R s m args below meth c nL D A Q (pc + 2) lv (.ref q :: st) (ws ++ [(q, .inl (cZ, N, .inl (fun _ => 0)))]) (cells + 1) (slots + N)) : Cc p l e R s m args below meth c nL D A Q pc lv (.int n :: st) ws cells slots := by
  intro ls H locs hl hP hD hS
  refine va_newa (atype := .boolean) (a0 := (N, .inl (fun _ => 0))) (ty := .boolean) X.1.1 X.1.2.1 (X.1.2.2.2.2 _ ac_boolean) rfl X.2.1 hP hD hS X.2.2.1 (fun _ => rfl) hn hN hb hc hs hdg (fun q cA H1 hK1 hP1 hD1 hS1 => ?_)
  have e1 : s.vm.findClass "[Z" = some cA := (hK1.2 2 _ rfl).2
  have e2 : s.vm.findClass "[Z" = some cZ := (hK1.2 1 _ rfl).2
  rw [e1] at e2
  cases e2
  exact h q ls H1 locs hl hP1 hD1 hS1
theorem k_new (X : CI p s m args meth c cc nL own D cI cZ A ini) {C : String} {T : u_T} {N ci ix : Nat} {ty0 : Nat → FieldType} {fs : List Value} (hin : ∀ w ∈ u_ws C T N, w ∈ wA) (hc : vwCl[ci]? = some (C, T, N)) (hty : ∀ k, k < N → parseFieldDescriptor (T k).2.2.1 = some (ty0 k)) (h1 : Cond.classLink own ix C ∈ wA) (h2 : Cond.instantiable C N ∈ wA) (h3 : Cond.initialized C ∈ wA) (hfs : ∀ j, j < N → defaultValue (ty0 j) = vp_V fs j) (hcc : cells + 1 ≤ R.cells) (hs : slots + N ≤ R.slots) (hdg : decode cc pc = .ok (.new ix, 3)) (h : ∀ q, Cc p l e R s m args below meth c nL D A Q (pc + 3) lv (.ref q :: st) (ws ++ [(q, .inr (ci, fs))]) (cells + 1) (slots + N)) : Cc p l e R s m args below meth c nL D A Q pc lv st ws cells slots :=
  fun ls H locs hl hP hD hS => va_new X.1.1 X.1.2.1 X.1.2.2.2.2 hin ty0 hty X.1.2.2.2.1 (X.1.2.2.2.2 _ h1) (X.1.2.2.2.2 _ h2) (X.1.2.2.2.2 _ h3) X.2.1 hP hD hS X.2.2.1 hc hfs hcc hs hdg (fun q H1 hP1 hD1 hS1 => h q ls H1 locs hl hP1 hD1 hS1)
theorem k_obj (X : CI p s m args meth c cc nL own D cI cZ A ini) {ix a : Nat} (hm : Cond.methodLink own ix objectInit ∈ wA) (hdg : decode cc pc = .ok (.invokespecial ix, 3)) (hf : 1 ≤ R.frames) (hL : 12 ≤ R.locals) (h : Cc p l e R s m args below meth c nL D A Q (pc + 3) lv [] ws cells slots) : Cc p l e R s m args below meth c nL D A Q pc lv [.ref a] ws cells slots :=
  fun ls H locs hl hP hD hS => W.objInit X.1.1 X.1.2.1 X.1.2.2.2.1 (X.1.2.2.2.2 _ hm) (X.1.2.2.2.2 _ im_objectInit) (X.1.2.2.2.2 _ co_objectInit) rfl (by rw [X.1.2.2.1]; exact hl.1) rfl hdg hf hL (h ls H locs hl hP hD hS)

abbrev kCp (D : va_G) (cI cZ : ClassId) (av : List Value) (sz : Nat) (wc : va_W) : Array Value → State → Prop := va_Pc av (fun U => U.heap.size = sz ∧ va_P D vwCl wc U.heap ∧ kE D (tyA cI cZ) U ∧ va_D (fun _ => True) wc)
abbrev kCq (D : va_G) {S : Type} (B : S → va_W) (sz : Nat) (wc : va_W) : Array Value → State → Outcome → State → Prop := va_Qv (fun _ : S => True) (fun u t => va_P D vwCl (B u) t.heap ∧ va_D (va_A wc sz) (B u)) (va_A wc sz)
theorem Cc.met {y : MethodName} {rm : Room} {mc ms sz : Nat} {wc : va_W} {av : List Value} {S : Type} {B : S → va_W} (hy : plainName y.cls = true) (hown : y.cls = own) (hnm : y.name = "<init>") (hn : (lg_sl av).length ≤ nL)
    (body : ∀ (p : Program) (e : Env) (s : State) (m : MethodId) (args : Array Value) (below : List Frame) (meth : Method) (c : Code), CI p s m args meth c cc nL own D cI cZ (va_A wc sz) true → s.heap.size = sz → nst s → Cc p l e rm s m args below meth c nL D (va_A wc sz) (MQ below (kCq D B sz wc) args s mc ms (va_A wc sz)) 0 (lv_args 0 av) [] wc 0 0) :
    Met l y (wsM y cc nL none) rm (kCp D cI cZ av sz wc) (kCq D B sz wc) mc ms (va_A wc sz) := by
  subst hown
  refine Met.ofW (cc := cc) (maxL := nL) (ret := none) hy rfl ?_
  intro p e s m args below meth c s₁ Bd hml hv
  obtain ⟨rfl, hsz, hP, ⟨hK, hN⟩, hD0⟩ := hv
  have hts := atoms_spec (ws := wsM y cc nL none) Bd.pre
  have X : CI p s m av.toArray meth c cc nL y.cls D cI cZ (va_A wc sz) true := ⟨⟨Bd.exec, Bd.bytes, hml, findClass_of_methodNamed Bd.named, fun w h => hts w (List.mem_cons_of_mem _ h)⟩, hK, fun q h => Or.inr (by rw [← hsz]; exact h), Bd.notSynchronized, fun _ => ⟨((name_of_methodNamed Bd.named Bd.method).1).trans hnm, Bd.returns⟩⟩
  rw [lg_entry_eq]
  exact body p e s m av.toArray below meth c X hsz hN _ s.heap [] (lv_entry av hn) hP (hD0.self (sz := sz)) va_S.rf
theorem k_ret (X : CI p s m args meth c cc nL own D cI cZ A true) {S : Type} {B : S → va_W} {sz : Nat} {wc : va_W} (hA : A = va_A wc sz) (u : S) (hB : B u = ws) (hdg : decode cc pc = .ok (.return_, 1)) : Cc p l e R s m args below meth c nL D A (MQ below (kCq D B sz wc) args s cells slots A) pc lv [] ws cells slots := by
  intro ls H locs hl hP hD hS
  subst hA
  subst hB
  exact W.vret X.1.1 X.1.2.1 (X.2.2.2.2 rfl).2 (fun t ht hW => ⟨⟨u, rfl, trivial, by rw [ht]; exact hP, hD⟩, hS.F ht⟩) hS.2.2 hdg X.2.2.2.1
theorem k_ctor (X : CI p s m args meth c cc nL own D cI cZ A ini) (hN : nst s) {y : MethodName} {cy : ByteArray} {nLy ix n a mc ms : Nat} {rm : Room} {wc wr : va_W} {As stk : List Value} {S : Type} {B : S → va_W} (hM : ∀ sz, Met l y (wsM y cy nLy none) rm (kCp D cI cZ (.ref a :: As) sz wc) (kCq D B sz wc) mc ms (va_A wc sz)) (h1 : Cond.methodLink own ix y ∈ wA) (h2 : Cond.instanceMethod y ∈ wA) (h3 : Cond.initialized y.cls ∈ wA) (h4 : Cond.code y cy nLy none ∈ wA) (hy1 : y.name = "<init>")
    (hrc : rm.cells = mc) (hrs : rm.slots = ms) (hd : y.cls ≠ "java/lang/invoke/MethodHandle" ∧ y.cls ≠ "java/lang/invoke/VarHandle" ∧ (parseMethodDescriptor y.desc).map (fun d => d.parameters.length) = some n) (hR : rm.frames + 1 ≤ R.frames ∧ 8 + (nLy + 11) + rm.locals ≤ R.locals)
    (isC isR : List Nat) (hC : isC.map (fun i => ws[i]?) = wc.map some) (hRr : isR.map (fun i => ws[i]?) = wr.map some) (hndC : va_nd isC = true) (hnd : va_nd isR = true) (hdis : ∀ i ∈ isR, i ∉ isC) (hn : As.length = n) (hst : stk = As.reverse ++ .ref a :: st) (hroom : (st.map fun v => v.category).sum ≤ 8) (hdg : decode cc pc = .ok (.invokespecial ix, 3)) (hcell : cells + mc ≤ R.cells ∧ slots + ms ≤ R.slots)
    (h : ∀ u, Cc p l e R s m args below meth c nL D A Q (pc + 3) lv st (wr ++ B u) (cells + mc) (slots + ms)) : Cc p l e R s m args below meth c nL D A Q pc lv stk ws cells slots := by
  intro ls H locs hl hP hD hS
  have hf : ws.filterMap (fun x => some x) = ws := List.filterMap_some
  have hC' : isC.filterMap (fun i => ws[i]?) = wc := by
    have : (isC.map (fun i => ws[i]?)).filterMap id = (wc.map some).filterMap id := by rw [hC]
    rw [List.filterMap_map, List.filterMap_map] at this
    have e : wc.filterMap (id ∘ some) = wc := List.filterMap_some
    rw [e] at this
    exact this
  have hPc := hP.sub (ws' := wc) isC hC'
  have hDc := hD.sub (ws' := wc) isC hndC hC
  have hFc := va_free (wc := wc) hD hS X.2.2.1 isC hC
  refine va_callv (va_runI (As := As) (rest := st) X.1 (hM H.size) (cwI n X.1.2.2.2.2 (wsM_in h4) rfl hrc hrs (X.1.2.2.2.2 _ h3) (X.1.2.2.2.2 _ h1) (X.1.2.2.2.2 _ h2) hy1 hd hR) ⟨fun a U g mk q => by obtain ⟨q0, q1, qP, ⟨qK, qN⟩, qD⟩ := q; exact ⟨q0, q1, qP, ⟨va_K.moved (u := U) (U := U.calling g mk a) (Vm.Alike.refl U.vm) qK, nst.same (s := U) (U := U.calling g mk a) rfl qN⟩, qD⟩, fun U hU hW => ⟨rfl, by rw [hU], by rw [hU]; exact hPc, ⟨va_K.moved hW.alike X.2.1, nst.warm hW hN⟩, hDc.weaken (fun _ _ _ _ => trivial)⟩⟩ rfl hn hl.1 hst (lv_room hroom) hdg hcell) hS (fun q _ h => hFc q h) hFc (fun u t H1 locs1 ht hvm hw hB hz1 hk1 hS1 => ?_)
  obtain ⟨hP1, hD1⟩ := hB
  rw [ht] at hP1
  obtain ⟨hP2, hD2⟩ := va_join (wr := wr) (w1 := B u) hP hD isC isR hC hRr hnd hdis hk1 hFc hP1 hD1
  exact h u ls H1 locs1 hl hP2 hD2 hS1

end CTR
