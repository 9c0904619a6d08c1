set_option maxRecDepth 100000 in
set_option maxHeartbeats 4000000 in
theorem cl_X3_takeBlock_50 (l : Launch) (D : va_G) (cI cZ : ClassId) (α : Nat → Nat) (A : Nat → Prop) (hJ : ∀ σ, va_D A ((kwM cI cZ α) σ)) {p : Program} {e : Env} {s : State} {m : MethodId} {args : Array Value} {below : List Frame} {meth : Method} {c : Code} (X : CX p s m args meth c cX3_takeBlock 5 RX3 D (tyA cI cZ) (kwM cI cZ α) A (some .int)) : ∀ (n : Nat) (x1 : Int32) (x2 : Int32) (x3 : Int32) (x4 : Int32) (σ : KS), Cr p l e (rmd 0) s m args below meth c 5 D (kwM cI cZ α) A vI 50 [(0, .ref (α 0)), (1, .int x1), (2, .int x2), (3, .int x3), (4, .int x4)] [] σ (f_X3_takeBlock_50 n x1 x2 x3 x4 σ) := by
  intro n
  induction n with
  | zero => intros; exact r_none
  | succ n ih =>
    intro x1 x2 x3 x4 σ
    rw [f_X3_takeBlock_50]
    refine r_iload X (j := 4) dX3_takeBlock_50 rfl ?_
    refine r_iload_n X (j := 1) dX3_takeBlock_52 rfl rfl ?_
    refine r_icmp_lt X (tgt := 81) dX3_takeBlock_53 (by decide) (fun _ => ?_) (fun _ => ?_)
    · refine r_iload_n X (j := 3) dX3_takeBlock_81 rfl rfl ?_
      exact r_ireturn X dX3_takeBlock_82
    · refine r_aload_n X (j := 0) dX3_takeBlock_56 rfl rfl ?_
      refine r_get X (ci := 3) (q0 := 0) (v := .ref (α 1)) inX3 rfl rfl 0 (by decide) rfl fl_X3_7 dX3_takeBlock_57 ?_
      refine r_sipush X (v := 128) dX3_takeBlock_60 (by decide) ?_
      refine r_iload X (j := 4) dX3_takeBlock_63 rfl ?_
      refine r_imul X dX3_takeBlock_65 ?_
      refine r_iload_n X (j := 3) dX3_takeBlock_66 rfl rfl ?_
      refine r_iadd X dX3_takeBlock_67 ?_
      refine r_iconst X (v := 1) dX3_takeBlock_68 (by decide) ?_
      refine r_iload X (j := 4) dX3_takeBlock_69 rfl ?_
      refine r_ishl X dX3_takeBlock_71 ?_
      refine r_iadd X dX3_takeBlock_72 ?_
      refine r_iconst X (v := 1) dX3_takeBlock_73 (by decide) ?_
      refine r_zast X (q0 := 1) (t0 := 1) (kk := 1) rfl (fun _ => rfl) rfl dX3_takeBlock_74 ?_
      refine r_iinc X (j := 4) (v := (x4 + (-1))) (lv' := [(4, .int (x4 + (-1))), (0, .ref (α 0)), (1, .int x1), (2, .int x2), (3, .int x3)]) dX3_takeBlock_75 rfl rfl (by decide) rfl ?_
      refine r_goto X (tgt := 50) dX3_takeBlock_78 (by decide) ?_
      refine r_sub (lv' := [(0, .ref (α 0)), (1, .int x1), (2, .int x2), (3, .int x3), (4, .int (x4 + (-1)))]) [1, 2, 3, 4, 0] rfl ?_
      exact ih x1 x2 x3 (x4 + (-1)) (wr σ 1 (((128 * x4) + x3) + ((1 : Int32) <<< (x4 &&& 31))) 1)
set_option maxRecDepth 100000 in
set_option maxHeartbeats 4000000 in
theorem cl_X3_takeBlock_10 (l : Launch) (D : va_G) (cI cZ : ClassId) (α : Nat → Nat) (A : Nat → Prop) (hJ : ∀ σ, va_D A ((kwM cI cZ α) σ)) {p : Program} {e : Env} {s : State} {m : MethodId} {args : Array Value} {below : List Frame} {meth : Method} {c : Code} (X : CX p s m args meth c cX3_takeBlock 5 RX3 D (tyA cI cZ) (kwM cI cZ α) A (some .int)) (kk : Int32 → Int32 → KS → KR) (hkk : ∀ (y1 : Int32) (y2 : Int32) (σ : KS), Cr p l e (rmd 0) s m args below meth c 5 D (kwM cI cZ α) A vI 2 [(0, .ref (α 0)), (1, .int y1), (2, .int y2)] [] σ (kk y1 y2 σ)) : ∀ (n : Nat) (x1 : Int32) (x2 : Int32) (x3 : Int32) (σ : KS), Cr p l e (rmd 0) s m args below meth c 5 D (kwM cI cZ α) A vI 10 [(0, .ref (α 0)), (1, .int x1), (2, .int x2), (3, .int x3)] [] σ (f_X3_takeBlock_10 kk n x1 x2 x3 σ) := by
  intro n
  induction n with
  | zero => intros; exact r_none
  | succ n ih =>
    intro x1 x2 x3 σ
    rw [f_X3_takeBlock_10]
    refine r_iload_n X (j := 3) dX3_takeBlock_10 rfl rfl ?_
    refine r_sipush X (v := 128) dX3_takeBlock_11 (by decide) ?_
    refine r_icmp_ge X (tgt := 89) dX3_takeBlock_14 (by decide) (fun _ => ?_) (fun _ => ?_)
    · refine r_iinc X (j := 2) (v := (x2 + 1)) (lv' := [(2, .int (x2 + 1)), (0, .ref (α 0)), (1, .int x1), (3, .int x3)]) dX3_takeBlock_89 rfl rfl (by decide) rfl ?_
      refine r_goto X (tgt := 2) dX3_takeBlock_92 (by decide) ?_
      refine r_sub (lv' := [(0, .ref (α 0)), (1, .int x1), (2, .int (x2 + 1))]) [1, 2, 0] rfl ?_
      exact hkk x1 (x2 + 1) σ
    · refine r_aload_n X (j := 0) dX3_takeBlock_17 rfl rfl ?_
      refine r_get X (ci := 3) (q0 := 0) (v := .ref (α 1)) inX3 rfl rfl 0 (by decide) rfl fl_X3_7 dX3_takeBlock_18 ?_
      refine r_sipush X (v := 128) dX3_takeBlock_21 (by decide) ?_
      refine r_iload_n X (j := 2) dX3_takeBlock_24 rfl rfl ?_
      refine r_imul X dX3_takeBlock_25 ?_
      refine r_iload_n X (j := 3) dX3_takeBlock_26 rfl rfl ?_
      refine r_iadd X dX3_takeBlock_27 ?_
      refine r_zald X (q0 := 1) (t0 := 1) (kk := 1) rfl rfl dX3_takeBlock_28 ?_
      refine r_if_eq X (tgt := 83) dX3_takeBlock_29 (by decide) (fun _ => ?_) (fun _ => ?_)
      · refine r_iinc X (j := 3) (v := (x3 + 1)) (lv' := [(3, .int (x3 + 1)), (0, .ref (α 0)), (1, .int x1), (2, .int x2)]) dX3_takeBlock_83 rfl rfl (by decide) rfl ?_
        refine r_goto X (tgt := 10) dX3_takeBlock_86 (by decide) ?_
        refine r_sub (lv' := [(0, .ref (α 0)), (1, .int x1), (2, .int x2), (3, .int (x3 + 1))]) [1, 2, 3, 0] rfl ?_
        exact ih x1 x2 (x3 + 1) σ
      · refine r_aload_n X (j := 0) dX3_takeBlock_32 rfl rfl ?_
        refine r_get X (ci := 3) (q0 := 0) (v := .ref (α 1)) inX3 rfl rfl 0 (by decide) rfl fl_X3_7 dX3_takeBlock_33 ?_
        refine r_sipush X (v := 128) dX3_takeBlock_36 (by decide) ?_
        refine r_iload_n X (j := 2) dX3_takeBlock_39 rfl rfl ?_
        refine r_imul X dX3_takeBlock_40 ?_
        refine r_iload_n X (j := 3) dX3_takeBlock_41 rfl rfl ?_
        refine r_iadd X dX3_takeBlock_42 ?_
        refine r_iconst X (v := 0) dX3_takeBlock_43 (by decide) ?_
        refine r_zast X (q0 := 1) (t0 := 1) (kk := 1) rfl (fun _ => rfl) rfl dX3_takeBlock_44 ?_
        refine r_iload_n X (j := 2) dX3_takeBlock_45 rfl rfl ?_
        refine r_iconst X (v := 1) dX3_takeBlock_46 (by decide) ?_
        refine r_isub X dX3_takeBlock_47 ?_
        refine r_istore X (lv' := [(4, .int (x2 - 1)), (0, .ref (α 0)), (1, .int x1), (2, .int x2), (3, .int x3)]) dX3_takeBlock_48 (by decide) rfl ?_
        refine r_sub (lv' := [(0, .ref (α 0)), (1, .int x1), (2, .int x2), (3, .int x3), (4, .int (x2 - 1))]) [1, 2, 3, 4, 0] rfl ?_
        exact cl_X3_takeBlock_50 l D cI cZ α A hJ X FU x1 x2 x3 (x2 - 1) (wr σ 1 ((128 * x2) + x3) 0)
set_option maxRecDepth 100000 in
set_option maxHeartbeats 4000000 in
theorem cl_X3_takeBlock_2 (l : Launch) (D : va_G) (cI cZ : ClassId) (α : Nat → Nat) (A : Nat → Prop) (hJ : ∀ σ, va_D A ((kwM cI cZ α) σ)) {p : Program} {e : Env} {s : State} {m : MethodId} {args : Array Value} {below : List Frame} {meth : Method} {c : Code} (X : CX p s m args meth c cX3_takeBlock 5 RX3 D (tyA cI cZ) (kwM cI cZ α) A (some .int)) : ∀ (n : Nat) (x1 : Int32) (x2 : Int32) (σ : KS), Cr p l e (rmd 0) s m args below meth c 5 D (kwM cI cZ α) A vI 2 [(0, .ref (α 0)), (1, .int x1), (2, .int x2)] [] σ (f_X3_takeBlock_2 n x1 x2 σ) := by
  intro n
  induction n with
  | zero => intros; exact r_none
  | succ n ih =>
    intro x1 x2 σ
    rw [f_X3_takeBlock_2]
    refine r_iload_n X (j := 2) dX3_takeBlock_2 rfl rfl ?_
    refine r_bipush X (v := 8) dX3_takeBlock_3 (by decide) ?_
    refine r_icmp_ge X (tgt := 95) dX3_takeBlock_5 (by decide) (fun _ => ?_) (fun _ => ?_)
    · refine r_iconst X (v := (-1)) dX3_takeBlock_95 (by decide) ?_
      exact r_ireturn X dX3_takeBlock_96
    · refine r_iconst X (v := 0) dX3_takeBlock_8 (by decide) ?_
      refine r_istore_n X (lv' := [(3, .int 0), (0, .ref (α 0)), (1, .int x1), (2, .int x2)]) dX3_takeBlock_9 rfl (by decide) rfl ?_
      refine r_sub (lv' := [(0, .ref (α 0)), (1, .int x1), (2, .int x2), (3, .int 0)]) [1, 2, 3, 0] rfl ?_
      exact cl_X3_takeBlock_10 l D cI cZ α A hJ X (fun y1 y2 σ => f_X3_takeBlock_2 n y1 y2 σ) (fun y1 y2 σ => ih y1 y2 σ) FU x1 x2 0 σ
set_option maxRecDepth 100000 in
set_option maxHeartbeats 4000000 in
theorem c_X3_takeBlock (l : Launch) (D : va_G) (cI cZ : ClassId) (α : Nat → Nat) (A : Nat → Prop) (hJ : ∀ σ, va_D A ((kwM cI cZ α) σ)) (x1 : Int32) (σ : KS) : Ct l D (tyA cI cZ) (kwM cI cZ α) A yX3_takeBlock cX3_takeBlock 5 (some .int) 0 vI [.ref (α 0), .int x1] σ (m_X3_takeBlock x1 σ) := by
  refine Ct.of (own := RX3) hJ (by decide) rfl (Nat.le_of_ble_eq_true rfl) ?_
  intro p e s m args below meth c X
  refine r_sub (lv' := [(0, .ref (α 0)), (1, .int x1)]) [0, 1] rfl ?_
  unfold m_X3_takeBlock
  refine r_iload_n X (j := 1) dX3_takeBlock_0 rfl rfl ?_
  refine r_istore_n X (lv' := [(2, .int x1), (0, .ref (α 0)), (1, .int x1)]) dX3_takeBlock_1 rfl (by decide) rfl ?_
  refine r_sub (lv' := [(0, .ref (α 0)), (1, .int x1), (2, .int x1)]) [1, 2, 0] rfl ?_
  exact cl_X3_takeBlock_2 l D cI cZ α A hJ X FU x1 x1 σ
set_option maxRecDepth 100000 in
set_option maxHeartbeats 4000000 in
theorem cl_X3_tick_28 (l : Launch) (D : va_G) (cI cZ : ClassId) (α : Nat → Nat) (A : Nat → Prop) (hJ : ∀ σ, va_D A ((kwM cI cZ α) σ)) {p : Program} {e : Env} {s : State} {m : MethodId} {args : Array Value} {below : List Frame} {meth : Method} {c : Code} (X : CX p s m args meth c cX3_tick 3 RX3 D (tyA cI cZ) (kwM cI cZ α) A (some .int)) : ∀ (n : Nat) (x1 : Int32) (x2 : Int32) (σ : KS), Cr p l e (rmd 0) s m args below meth c 3 D (kwM cI cZ α) A vI 28 [(0, .ref (α 0)), (1, .int x1), (2, .int x2)] [] σ (f_X3_tick_28 n x1 x2 σ) := by
  intro n
  induction n with
  | zero => intros; exact r_none
  | succ n ih =>
    intro x1 x2 σ
    rw [f_X3_tick_28]
    refine r_iload_n X (j := 2) dX3_tick_28 rfl rfl ?_
    refine r_iconst X (v := 1) dX3_tick_29 (by decide) ?_
    refine r_iadd X dX3_tick_30 ?_
    refine r_aload_n X (j := 0) dX3_tick_31 rfl rfl ?_
    refine r_get X (ci := 3) (q0 := 0) (v := .int (gv σ 0)) inX3 rfl rfl 13 (by decide) rfl fl_X3_80 dX3_tick_32 ?_
    refine r_icmp_ge X (tgt := 58) dX3_tick_35 (by decide) (fun _ => ?_) (fun _ => ?_)
    · refine r_aload_n X (j := 0) dX3_tick_58 rfl rfl ?_
      refine r_get X (ci := 3) (q0 := 0) (v := .ref (α 13)) inX3 rfl rfl 12 (by decide) rfl fl_X3_47 dX3_tick_59 ?_
      refine r_aload_n X (j := 0) dX3_tick_62 rfl rfl ?_
      refine r_get X (ci := 3) (q0 := 0) (v := .int (gv σ 0)) inX3 rfl rfl 13 (by decide) rfl fl_X3_80 dX3_tick_63 ?_
      refine r_iconst X (v := 1) dX3_tick_66 (by decide) ?_
      refine r_isub X dX3_tick_67 ?_
      refine r_iload_n X (j := 1) dX3_tick_68 rfl rfl ?_
      refine r_iast X (q0 := 13) (t0 := 0) (kk := 13) rfl (fun _ => rfl) rfl dX3_tick_69 ?_
      refine r_aload_n X (j := 0) dX3_tick_70 rfl rfl ?_
      refine r_get X (ci := 3) (q0 := 0) (v := .ref (α 13)) inX3 rfl rfl 12 (by decide) rfl fl_X3_47 dX3_tick_71 ?_
      refine r_iconst X (v := 0) dX3_tick_74 (by decide) ?_
      refine r_iald X (q0 := 13) (t0 := 0) (kk := 13) rfl rfl dX3_tick_75 ?_
      exact r_ireturn X dX3_tick_76
    · refine r_aload_n X (j := 0) dX3_tick_38 rfl rfl ?_
      refine r_get X (ci := 3) (q0 := 0) (v := .ref (α 13)) inX3 rfl rfl 12 (by decide) rfl fl_X3_47 dX3_tick_39 ?_
      refine r_iload_n X (j := 2) dX3_tick_42 rfl rfl ?_
      refine r_aload_n X (j := 0) dX3_tick_43 rfl rfl ?_
      refine r_get X (ci := 3) (q0 := 0) (v := .ref (α 13)) inX3 rfl rfl 12 (by decide) rfl fl_X3_47 dX3_tick_44 ?_
      refine r_iload_n X (j := 2) dX3_tick_47 rfl rfl ?_
      refine r_iconst X (v := 1) dX3_tick_48 (by decide) ?_
      refine r_iadd X dX3_tick_49 ?_
      refine r_iald X (q0 := 13) (t0 := 0) (kk := 13) rfl rfl dX3_tick_50 ?_
      refine r_iast X (q0 := 13) (t0 := 0) (kk := 13) rfl (fun _ => rfl) rfl dX3_tick_51 ?_
      refine r_iinc X (j := 2) (v := (x2 + 1)) (lv' := [(2, .int (x2 + 1)), (0, .ref (α 0)), (1, .int x1)]) dX3_tick_52 rfl rfl (by decide) rfl ?_
      refine r_goto X (tgt := 28) dX3_tick_55 (by decide) ?_
      refine r_sub (lv' := [(0, .ref (α 0)), (1, .int x1), (2, .int (x2 + 1))]) [1, 2, 0] rfl ?_
      exact ih x1 (x2 + 1) (wr σ 13 x2 (rd σ 13 (x2 + 1)))
set_option maxRecDepth 100000 in
set_option maxHeartbeats 4000000 in
theorem c_X3_tick (l : Launch) (D : va_G) (cI cZ : ClassId) (α : Nat → Nat) (A : Nat → Prop) (hJ : ∀ σ, va_D A ((kwM cI cZ α) σ)) (σ : KS) : Ct l D (tyA cI cZ) (kwM cI cZ α) A yX3_tick cX3_tick 3 (some .int) 0 vI [.ref (α 0)] σ (m_X3_tick σ) := by
  refine Ct.of (own := RX3) hJ (by decide) rfl (Nat.le_of_ble_eq_true rfl) ?_
  intro p e s m args below meth c X
  refine r_sub (lv' := [(0, .ref (α 0))]) [0] rfl ?_
  unfold m_X3_tick
  refine r_aload_n X (j := 0) dX3_tick_0 rfl rfl ?_
  refine r_get X (ci := 3) (q0 := 0) (v := .int (gv σ 0)) inX3 rfl rfl 13 (by decide) rfl fl_X3_80 dX3_tick_1 ?_
  refine r_if_ne X (tgt := 9) dX3_tick_4 (by decide) (fun _ => ?_) (fun _ => ?_)
  · refine r_iconst X (v := (-1)) dX3_tick_7 (by decide) ?_
    exact r_ireturn X dX3_tick_8
  · refine r_aload_n X (j := 0) dX3_tick_9 rfl rfl ?_
    refine r_dup X dX3_tick_10 rfl ?_
    refine r_get X (ci := 3) (q0 := 0) (v := .int (gv σ 3)) inX3 rfl rfl 16 (by decide) rfl fl_X3_131 dX3_tick_11 ?_
    refine r_iconst X (v := 1) dX3_tick_14 (by decide) ?_
    refine r_iadd X dX3_tick_15 ?_
    refine r_put X (ci := 3) (q0 := 0) (j := 3) inX3 rfl tyX3_ok nmX3 rfl 16 (by decide) rfl fl_X3_131 rfl (by decide +kernel) (Nat.le_of_ble_eq_true rfl) dX3_tick_16 ?_
    refine r_aload_n X (j := 0) dX3_tick_19 rfl rfl ?_
    refine r_get X (ci := 3) (q0 := 0) (v := .ref (α 13)) inX3 rfl rfl 12 (by decide) rfl fl_X3_47 dX3_tick_20 ?_
    refine r_iconst X (v := 0) dX3_tick_23 (by decide) ?_
    refine r_iald X (q0 := 13) (t0 := 0) (kk := 13) rfl rfl dX3_tick_24 ?_
    refine r_istore_n X (lv' := [(1, .int (rd (sv σ 3 ((gv σ 3) + 1)) 13 0)), (0, .ref (α 0))]) dX3_tick_25 rfl (by decide) rfl ?_
    refine r_iconst X (v := 0) dX3_tick_26 (by decide) ?_
    refine r_istore_n X (lv' := [(2, .int 0), (1, .int (rd (sv σ 3 ((gv σ 3) + 1)) 13 0)), (0, .ref (α 0))]) dX3_tick_27 rfl (by decide) rfl ?_
    refine r_sub (lv' := [(0, .ref (α 0)), (1, .int (rd (sv σ 3 ((gv σ 3) + 1)) 13 0)), (2, .int 0)]) [2, 1, 0] rfl ?_
    exact cl_X3_tick_28 l D cI cZ α A hJ X FU (rd (sv σ 3 ((gv σ 3) + 1)) 13 0) 0 (sv σ 3 ((gv σ 3) + 1))
set_option maxRecDepth 100000 in
set_option maxHeartbeats 4000000 in
theorem cl_X3_told_19 (l : Launch) (D : va_G) (cI cZ : ClassId) (α : Nat → Nat) (A : Nat → Prop) (hJ : ∀ σ, va_D A ((kwM cI cZ α) σ)) {p : Program} {e : Env} {s : State} {m : MethodId} {args : Array Value} {below : List Frame} {meth : Method} {c : Code} (X : CX p s m args meth c cX3_told 5 RX3 D (tyA cI cZ) (kwM cI cZ α) A (some .int)) : ∀ (n : Nat) (x1 : Int32) (x2 : Int32) (x3 : Int32) (x4 : Int32) (σ : KS), Cr p l e (rmd 0) s m args below meth c 5 D (kwM cI cZ α) A vI 19 [(0, .ref (α 0)), (1, .int x1), (2, .int x2), (3, .int x3), (4, .int x4)] [] σ (f_X3_told_19 n x1 x2 x3 x4 σ) := by
  intro n
  induction n with
  | zero => intros; exact r_none
  | succ n ih =>
    intro x1 x2 x3 x4 σ
    rw [f_X3_told_19]
    refine r_iload X (j := 4) dX3_told_19 rfl ?_
    refine r_bipush X (v := 16) dX3_told_21 (by decide) ?_
    refine r_icmp_ge X (tgt := 70) dX3_told_23 (by decide) (fun _ => ?_) (fun _ => ?_)
    · refine r_iload_n X (j := 1) dX3_told_70 rfl rfl ?_
      refine r_if_ne X (tgt := 78) dX3_told_71 (by decide) (fun _ => ?_) (fun _ => ?_)
      · refine r_iload_n X (j := 2) dX3_told_74 rfl rfl ?_
        refine r_goto X (tgt := 115) dX3_told_75 (by decide) ?_
        exact r_ireturn X dX3_told_115
      · refine r_iload_n X (j := 1) dX3_told_78 rfl rfl ?_
        refine r_iconst X (v := 1) dX3_told_79 (by decide) ?_
        refine r_icmp_ne X (tgt := 87) dX3_told_80 (by decide) (fun _ => ?_) (fun _ => ?_)
        · refine r_iload_n X (j := 3) dX3_told_83 rfl rfl ?_
          refine r_goto X (tgt := 115) dX3_told_84 (by decide) ?_
          exact r_ireturn X dX3_told_115
        · refine r_iload_n X (j := 1) dX3_told_87 rfl rfl ?_
          refine r_iconst X (v := 2) dX3_told_88 (by decide) ?_
          refine r_icmp_ne X (tgt := 99) dX3_told_89 (by decide) (fun _ => ?_) (fun _ => ?_)
          · refine r_aload_n X (j := 0) dX3_told_92 rfl rfl ?_
            refine r_get X (ci := 3) (q0 := 0) (v := .int (gv σ 1)) inX3 rfl rfl 14 (by decide) rfl fl_X3_122 dX3_told_93 ?_
            refine r_goto X (tgt := 115) dX3_told_96 (by decide) ?_
            exact r_ireturn X dX3_told_115
          · refine r_iload_n X (j := 1) dX3_told_99 rfl rfl ?_
            refine r_iconst X (v := 3) dX3_told_100 (by decide) ?_
            refine r_icmp_ne X (tgt := 111) dX3_told_101 (by decide) (fun _ => ?_) (fun _ => ?_)
            · refine r_aload_n X (j := 0) dX3_told_104 rfl rfl ?_
              refine r_get X (ci := 3) (q0 := 0) (v := .int (gv σ 2)) inX3 rfl rfl 15 (by decide) rfl fl_X3_63 dX3_told_105 ?_
              refine r_goto X (tgt := 115) dX3_told_108 (by decide) ?_
              exact r_ireturn X dX3_told_115
            · refine r_aload_n X (j := 0) dX3_told_111 rfl rfl ?_
              refine r_get X (ci := 3) (q0 := 0) (v := .int (gv σ 3)) inX3 rfl rfl 16 (by decide) rfl fl_X3_131 dX3_told_112 ?_
              exact r_ireturn X dX3_told_115
    · refine r_iload_n X (j := 2) dX3_told_26 rfl rfl ?_
      refine r_aload_n X (j := 0) dX3_told_27 rfl rfl ?_
      refine r_get X (ci := 3) (q0 := 0) (v := .ref (α 6)) inX3 rfl rfl 5 (by decide) rfl fl_X3_26 dX3_told_28 ?_
      refine r_iload X (j := 4) dX3_told_31 rfl ?_
      refine r_iald X (q0 := 6) (t0 := 0) (kk := 6) rfl rfl dX3_told_33 ?_
      refine r_iconst X (v := 1) dX3_told_34 (by decide) ?_
      refine r_icmp_ne X (tgt := 42) dX3_told_35 (by decide) (fun _ => ?_) (fun _ => ?_)
      · refine r_iconst X (v := 1) dX3_told_38 (by decide) ?_
        refine r_goto X (tgt := 43) dX3_told_39 (by decide) ?_
        refine r_iadd X dX3_told_43 ?_
        refine r_istore_n X (lv' := [(2, .int (x2 + 1)), (0, .ref (α 0)), (1, .int x1), (3, .int x3), (4, .int x4)]) dX3_told_44 rfl (by decide) rfl ?_
        refine r_iload_n X (j := 3) dX3_told_45 rfl rfl ?_
        refine r_aload_n X (j := 1) dX3_told_46 rfl rfl ?_
        refine r_get X (ci := 3) (q0 := 0) (v := .ref (α 6)) inX3 rfl rfl 5 (by decide) rfl fl_X3_26 dX3_told_47 ?_
        refine r_iload X (j := 4) dX3_told_50 rfl ?_
        refine r_iald X (q0 := 6) (t0 := 0) (kk := 6) rfl rfl dX3_told_52 ?_
        refine r_iconst X (v := 2) dX3_told_53 (by decide) ?_
        refine r_icmp_ne X (tgt := 61) dX3_told_54 (by decide) (fun _ => ?_) (fun _ => ?_)
        · refine r_iconst X (v := 1) dX3_told_57 (by decide) ?_
          refine r_goto X (tgt := 62) dX3_told_58 (by decide) ?_
          refine r_iadd X dX3_told_62 ?_
          refine r_istore_n X (lv' := [(3, .int (x3 + 1)), (2, .int (x2 + 1)), (0, .ref (α 0)), (1, .int x1), (4, .int x4)]) dX3_told_63 rfl (by decide) rfl ?_
          refine r_iinc X (j := 4) (v := (x4 + 1)) (lv' := [(4, .int (x4 + 1)), (3, .int (x3 + 1)), (2, .int (x2 + 1)), (0, .ref (α 0)), (1, .int x1)]) dX3_told_64 rfl rfl (by decide) rfl ?_
          refine r_goto X (tgt := 19) dX3_told_67 (by decide) ?_
          refine r_sub (lv' := [(0, .ref (α 0)), (1, .int x1), (2, .int (x2 + 1)), (3, .int (x3 + 1)), (4, .int (x4 + 1))]) [3, 4, 2, 1, 0] rfl ?_
          exact ih x1 (x2 + 1) (x3 + 1) (x4 + 1) σ
        · refine r_iconst X (v := 0) dX3_told_61 (by decide) ?_
          refine r_iadd X dX3_told_62 ?_
          refine r_istore_n X (lv' := [(3, .int (x3 + 0)), (2, .int (x2 + 1)), (0, .ref (α 0)), (1, .int x1), (4, .int x4)]) dX3_told_63 rfl (by decide) rfl ?_
          refine r_iinc X (j := 4) (v := (x4 + 1)) (lv' := [(4, .int (x4 + 1)), (3, .int (x3 + 0)), (2, .int (x2 + 1)), (0, .ref (α 0)), (1, .int x1)]) dX3_told_64 rfl rfl (by decide) rfl ?_
          refine r_goto X (tgt := 19) dX3_told_67 (by decide) ?_
          refine r_sub (lv' := [(0, .ref (α 0)), (1, .int x1), (2, .int (x2 + 1)), (3, .int (x3 + 0)), (4, .int (x4 + 1))]) [3, 4, 2, 1, 0] rfl ?_
          exact ih x1 (x2 + 1) (x3 + 0) (x4 + 1) σ
      · refine r_iconst X (v := 0) dX3_told_42 (by decide) ?_
        refine r_iadd X dX3_told_43 ?_
        refine r_istore_n X (lv' := [(2, .int (x2 + 0)), (0, .ref (α 0)), (1, .int x1), (3, .int x3), (4, .int x4)]) dX3_told_44 rfl (by decide) rfl ?_
        refine r_iload_n X (j := 3) dX3_told_45 rfl rfl ?_
        refine r_aload_n X (j := 1) dX3_told_46 rfl rfl ?_
        refine r_get X (ci := 3) (q0 := 0) (v := .ref (α 6)) inX3 rfl rfl 5 (by decide) rfl fl_X3_26 dX3_told_47 ?_
        refine r_iload X (j := 4) dX3_told_50 rfl ?_
        refine r_iald X (q0 := 6) (t0 := 0) (kk := 6) rfl rfl dX3_told_52 ?_
        refine r_iconst X (v := 2) dX3_told_53 (by decide) ?_
        refine r_icmp_ne X (tgt := 61) dX3_told_54 (by decide) (fun _ => ?_) (fun _ => ?_)
        · refine r_iconst X (v := 1) dX3_told_57 (by decide) ?_
          refine r_goto X (tgt := 62) dX3_told_58 (by decide) ?_
          refine r_iadd X dX3_told_62 ?_
          refine r_istore_n X (lv' := [(3, .int (x3 + 1)), (2, .int (x2 + 0)), (0, .ref (α 0)), (1, .int x1), (4, .int x4)]) dX3_told_63 rfl (by decide) rfl ?_
          refine r_iinc X (j := 4) (v := (x4 + 1)) (lv' := [(4, .int (x4 + 1)), (3, .int (x3 + 1)), (2, .int (x2 + 0)), (0, .ref (α 0)), (1, .int x1)]) dX3_told_64 rfl rfl (by decide) rfl ?_
          refine r_goto X (tgt := 19) dX3_told_67 (by decide) ?_
          refine r_sub (lv' := [(0, .ref (α 0)), (1, .int x1), (2, .int (x2 + 0)), (3, .int (x3 + 1)), (4, .int (x4 + 1))]) [3, 4, 2, 1, 0] rfl ?_
          exact ih x1 (x2 + 0) (x3 + 1) (x4 + 1) σ
        · refine r_iconst X (v := 0) dX3_told_61 (by decide) ?_
          refine r_iadd X dX3_told_62 ?_
          refine r_istore_n X (lv' := [(3, .int (x3 + 0)), (2, .int (x2 + 0)), (0, .ref (α 0)), (1, .int x1), (4, .int x4)]) dX3_told_63 rfl (by decide) rfl ?_
          refine r_iinc X (j := 4) (v := (x4 + 1)) (lv' := [(4, .int (x4 + 1)), (3, .int (x3 + 0)), (2, .int (x2 + 0)), (0, .ref (α 0)), (1, .int x1)]) dX3_told_64 rfl rfl (by decide) rfl ?_
          refine r_goto X (tgt := 19) dX3_told_67 (by decide) ?_
          refine r_sub (lv' := [(0, .ref (α 0)), (1, .int x1), (2, .int (x2 + 0)), (3, .int (x3 + 0)), (4, .int (x4 + 1))]) [3, 4, 2, 1, 0] rfl ?_
          exact ih x1 (x2 + 0) (x3 + 0) (x4 + 1) σ
set_option maxRecDepth 100000 in
set_option maxHeartbeats 4000000 in
theorem c_X3_told (l : Launch) (D : va_G) (cI cZ : ClassId) (α : Nat → Nat) (A : Nat → Prop) (hJ : ∀ σ, va_D A ((kwM cI cZ α) σ)) (x1 : Int32) (σ : KS) : Ct l D (tyA cI cZ) (kwM cI cZ α) A yX3_told cX3_told 5 (some .int) 0 vI [.ref (α 0), .int x1] σ (m_X3_told x1 σ) := by
  refine Ct.of (own := RX3) hJ (by decide) rfl (Nat.le_of_ble_eq_true rfl) ?_
  intro p e s m args below meth c X
  refine r_sub (lv' := [(0, .ref (α 0)), (1, .int x1)]) [0, 1] rfl ?_
  unfold m_X3_told
  refine r_iload_n X (j := 1) dX3_told_0 rfl rfl ?_
  refine r_if_lt X (tgt := 9) dX3_told_1 (by decide) (fun _ => ?_) (fun _ => ?_)
  · refine r_bipush X (v := (-2)) dX3_told_9 (by decide) ?_
    exact r_ireturn X dX3_told_11
  · refine r_iload_n X (j := 1) dX3_told_4 rfl rfl ?_
    refine r_iconst X (v := 4) dX3_told_5 (by decide) ?_
    refine r_icmp_le X (tgt := 12) dX3_told_6 (by decide) (fun _ => ?_) (fun _ => ?_)
    · refine r_iconst X (v := 0) dX3_told_12 (by decide) ?_
      refine r_istore_n X (lv' := [(2, .int 0), (0, .ref (α 0)), (1, .int x1)]) dX3_told_13 rfl (by decide) rfl ?_
      refine r_iconst X (v := 0) dX3_told_14 (by decide) ?_
      refine r_istore_n X (lv' := [(3, .int 0), (2, .int 0), (0, .ref (α 0)), (1, .int x1)]) dX3_told_15 rfl (by decide) rfl ?_
      refine r_iconst X (v := 0) dX3_told_16 (by decide) ?_
      refine r_istore X (lv' := [(4, .int 0), (3, .int 0), (2, .int 0), (0, .ref (α 0)), (1, .int x1)]) dX3_told_17 (by decide) rfl ?_
      refine r_sub (lv' := [(0, .ref (α 0)), (1, .int x1), (2, .int 0), (3, .int 0), (4, .int 0)]) [3, 4, 2, 1, 0] rfl ?_
      exact cl_X3_told_19 l D cI cZ α A hJ X FU x1 0 0 0 σ
    · refine r_bipush X (v := (-2)) dX3_told_9 (by decide) ?_
      exact r_ireturn X dX3_told_11
set_option maxRecDepth 100000 in
set_option maxHeartbeats 4000000 in
theorem cl_X3_unusedNumber_2 (l : Launch) (D : va_G) (cI cZ : ClassId) (α : Nat → Nat) (A : Nat → Prop) (hJ : ∀ σ, va_D A ((kwM cI cZ α) σ)) {p : Program} {e : Env} {s : State} {m : MethodId} {args : Array Value} {below : List Frame} {meth : Method} {c : Code} (X : CX p s m args meth c cX3_unusedNumber 2 RX3 D (tyA cI cZ) (kwM cI cZ α) A (some .int)) : ∀ (n : Nat) (x1 : Int32) (σ : KS), Cr p l e (rmd 0) s m args below meth c 2 D (kwM cI cZ α) A vI 2 [(0, .ref (α 0)), (1, .int x1)] [] σ (f_X3_unusedNumber_2 n x1 σ) := by
  intro n
  induction n with
  | zero => intros; exact r_none
  | succ n ih =>
    intro x1 σ
    rw [f_X3_unusedNumber_2]
    refine r_iload_n X (j := 1) dX3_unusedNumber_2 rfl rfl ?_
    refine r_bipush X (v := 16) dX3_unusedNumber_3 (by decide) ?_
    refine r_icmp_ge X (tgt := 25) dX3_unusedNumber_5 (by decide) (fun _ => ?_) (fun _ => ?_)
    · refine r_iconst X (v := (-1)) dX3_unusedNumber_25 (by decide) ?_
      exact r_ireturn X dX3_unusedNumber_26
    · refine r_aload_n X (j := 0) dX3_unusedNumber_8 rfl rfl ?_
      refine r_get X (ci := 3) (q0 := 0) (v := .ref (α 6)) inX3 rfl rfl 5 (by decide) rfl fl_X3_26 dX3_unusedNumber_9 ?_
      refine r_iload_n X (j := 1) dX3_unusedNumber_12 rfl rfl ?_
      refine r_iald X (q0 := 6) (t0 := 0) (kk := 6) rfl rfl dX3_unusedNumber_13 ?_
      refine r_if_ne X (tgt := 19) dX3_unusedNumber_14 (by decide) (fun _ => ?_) (fun _ => ?_)
      · refine r_iload_n X (j := 1) dX3_unusedNumber_17 rfl rfl ?_
        exact r_ireturn X dX3_unusedNumber_18
      · refine r_iinc X (j := 1) (v := (x1 + 1)) (lv' := [(1, .int (x1 + 1)), (0, .ref (α 0))]) dX3_unusedNumber_19 rfl rfl (by decide) rfl ?_
        refine r_goto X (tgt := 2) dX3_unusedNumber_22 (by decide) ?_
        refine r_sub (lv' := [(0, .ref (α 0)), (1, .int (x1 + 1))]) [1, 0] rfl ?_
        exact ih (x1 + 1) σ
set_option maxRecDepth 100000 in
set_option maxHeartbeats 4000000 in
theorem c_X3_unusedNumber (l : Launch) (D : va_G) (cI cZ : ClassId) (α : Nat → Nat) (A : Nat → Prop) (hJ : ∀ σ, va_D A ((kwM cI cZ α) σ)) (σ : KS) : Ct l D (tyA cI cZ) (kwM cI cZ α) A yX3_unusedNumber cX3_unusedNumber 2 (some .int) 0 vI [.ref (α 0)] σ (m_X3_unusedNumber σ) := by
  refine Ct.of (own := RX3) hJ (by decide) rfl (Nat.le_of_ble_eq_true rfl) ?_
  intro p e s m args below meth c X
  refine r_sub (lv' := [(0, .ref (α 0))]) [0] rfl ?_
  unfold m_X3_unusedNumber
  refine r_iconst X (v := 0) dX3_unusedNumber_0 (by decide) ?_
  refine r_istore_n X (lv' := [(1, .int 0), (0, .ref (α 0))]) dX3_unusedNumber_1 rfl (by decide) rfl ?_
  refine r_sub (lv' := [(0, .ref (α 0)), (1, .int 0)]) [1, 0] rfl ?_
  exact cl_X3_unusedNumber_2 l D cI cZ α A hJ X FU 0 σ
set_option maxRecDepth 100000 in
set_option maxHeartbeats 4000000 in
theorem cl_X3_users_13 (l : Launch) (D : va_G) (cI cZ : ClassId) (α : Nat → Nat) (A : Nat → Prop) (hJ : ∀ σ, va_D A ((kwM cI cZ α) σ)) {p : Program} {e : Env} {s : State} {m : MethodId} {args : Array Value} {below : List Frame} {meth : Method} {c : Code} (X : CX p s m args meth c cX3_users 5 RX3 D (tyA cI cZ) (kwM cI cZ α) A (some .int)) (kk : Int32 → Int32 → Int32 → KS → KR) (hkk : ∀ (y1 : Int32) (y2 : Int32) (y3 : Int32) (σ : KS), Cr p l e (rmd 0) s m args below meth c 5 D (kwM cI cZ α) A vI 4 [(0, .ref (α 0)), (1, .int y1), (2, .int y2), (3, .int y3)] [] σ (kk y1 y2 y3 σ)) : ∀ (n : Nat) (x1 : Int32) (x2 : Int32) (x3 : Int32) (x4 : Int32) (σ : KS), Cr p l e (rmd 0) s m args below meth c 5 D (kwM cI cZ α) A vI 13 [(0, .ref (α 0)), (1, .int x1), (2, .int x2), (3, .int x3), (4, .int x4)] [] σ (f_X3_users_13 kk n x1 x2 x3 x4 σ) := by
  intro n
  induction n with
  | zero => intros; exact r_none
  | succ n ih =>
    intro x1 x2 x3 x4 σ
    rw [f_X3_users_13]
    refine r_iload X (j := 4) dX3_users_13 rfl ?_
    refine r_aload_n X (j := 0) dX3_users_15 rfl rfl ?_
    refine r_get X (ci := 3) (q0 := 0) (v := .ref (α 7)) inX3 rfl rfl 6 (by decide) rfl fl_X3_29 dX3_users_16 ?_
    refine r_iload_n X (j := 3) dX3_users_19 rfl rfl ?_
    refine r_iald X (q0 := 7) (t0 := 0) (kk := 7) rfl rfl dX3_users_20 ?_
    refine r_icmp_ge X (tgt := 65) dX3_users_21 (by decide) (fun _ => ?_) (fun _ => ?_)
    · refine r_iinc X (j := 3) (v := (x3 + 1)) (lv' := [(3, .int (x3 + 1)), (0, .ref (α 0)), (1, .int x1), (2, .int x2), (4, .int x4)]) dX3_users_65 rfl rfl (by decide) rfl ?_
      refine r_goto X (tgt := 4) dX3_users_68 (by decide) ?_
      refine r_sub (lv' := [(0, .ref (α 0)), (1, .int x1), (2, .int x2), (3, .int (x3 + 1))]) [1, 2, 3, 0] rfl ?_
      exact hkk x1 x2 (x3 + 1) σ
    · refine r_aload_n X (j := 0) dX3_users_24 rfl rfl ?_
      refine r_get X (ci := 3) (q0 := 0) (v := .ref (α 6)) inX3 rfl rfl 5 (by decide) rfl fl_X3_26 dX3_users_25 ?_
      refine r_iload_n X (j := 3) dX3_users_28 rfl rfl ?_
      refine r_iald X (q0 := 6) (t0 := 0) (kk := 6) rfl rfl dX3_users_29 ?_
      refine r_iconst X (v := 1) dX3_users_30 (by decide) ?_
      refine r_icmp_ne X (tgt := 65) dX3_users_31 (by decide) (fun _ => ?_) (fun _ => ?_)
      · refine r_iload_n X (j := 2) dX3_users_34 rfl rfl ?_
        refine r_aload_n X (j := 0) dX3_users_35 rfl rfl ?_
        refine r_get X (ci := 3) (q0 := 0) (v := .ref (α 11)) inX3 rfl rfl 10 (by decide) rfl fl_X3_41 dX3_users_36 ?_
        refine r_sipush X (v := 256) dX3_users_39 (by decide) ?_
        refine r_iload_n X (j := 3) dX3_users_42 rfl rfl ?_
        refine r_imul X dX3_users_43 ?_
        refine r_iload X (j := 4) dX3_users_44 rfl ?_
        refine r_iadd X dX3_users_46 ?_
        refine r_iald X (q0 := 11) (t0 := 0) (kk := 11) rfl rfl dX3_users_47 ?_
        refine r_iload_n X (j := 1) dX3_users_48 rfl rfl ?_
        refine r_icmp_ne X (tgt := 56) dX3_users_49 (by decide) (fun _ => ?_) (fun _ => ?_)
        · refine r_iconst X (v := 1) dX3_users_52 (by decide) ?_
          refine r_goto X (tgt := 57) dX3_users_53 (by decide) ?_
          refine r_iadd X dX3_users_57 ?_
          refine r_istore_n X (lv' := [(2, .int (x2 + 1)), (0, .ref (α 0)), (1, .int x1), (3, .int x3), (4, .int x4)]) dX3_users_58 rfl (by decide) rfl ?_
          refine r_iinc X (j := 4) (v := (x4 + 1)) (lv' := [(4, .int (x4 + 1)), (2, .int (x2 + 1)), (0, .ref (α 0)), (1, .int x1), (3, .int x3)]) dX3_users_59 rfl rfl (by decide) rfl ?_
          refine r_goto X (tgt := 13) dX3_users_62 (by decide) ?_
          refine r_sub (lv' := [(0, .ref (α 0)), (1, .int x1), (2, .int (x2 + 1)), (3, .int x3), (4, .int (x4 + 1))]) [2, 3, 1, 4, 0] rfl ?_
          exact ih x1 (x2 + 1) x3 (x4 + 1) σ
        · refine r_iconst X (v := 0) dX3_users_56 (by decide) ?_
          refine r_iadd X dX3_users_57 ?_
          refine r_istore_n X (lv' := [(2, .int (x2 + 0)), (0, .ref (α 0)), (1, .int x1), (3, .int x3), (4, .int x4)]) dX3_users_58 rfl (by decide) rfl ?_
          refine r_iinc X (j := 4) (v := (x4 + 1)) (lv' := [(4, .int (x4 + 1)), (2, .int (x2 + 0)), (0, .ref (α 0)), (1, .int x1), (3, .int x3)]) dX3_users_59 rfl rfl (by decide) rfl ?_
          refine r_goto X (tgt := 13) dX3_users_62 (by decide) ?_
          refine r_sub (lv' := [(0, .ref (α 0)), (1, .int x1), (2, .int (x2 + 0)), (3, .int x3), (4, .int (x4 + 1))]) [2, 3, 1, 4, 0] rfl ?_
          exact ih x1 (x2 + 0) x3 (x4 + 1) σ
      · refine r_iinc X (j := 3) (v := (x3 + 1)) (lv' := [(3, .int (x3 + 1)), (0, .ref (α 0)), (1, .int x1), (2, .int x2), (4, .int x4)]) dX3_users_65 rfl rfl (by decide) rfl ?_
        refine r_goto X (tgt := 4) dX3_users_68 (by decide) ?_
        refine r_sub (lv' := [(0, .ref (α 0)), (1, .int x1), (2, .int x2), (3, .int (x3 + 1))]) [1, 2, 3, 0] rfl ?_
        exact hkk x1 x2 (x3 + 1) σ
set_option maxRecDepth 100000 in
set_option maxHeartbeats 4000000 in
theorem cl_X3_users_4 (l : Launch) (D : va_G) (cI cZ : ClassId) (α : Nat → Nat) (A : Nat → Prop) (hJ : ∀ σ, va_D A ((kwM cI cZ α) σ)) {p : Program} {e : Env} {s : State} {m : MethodId} {args : Array Value} {below : List Frame} {meth : Method} {c : Code} (X : CX p s m args meth c cX3_users 5 RX3 D (tyA cI cZ) (kwM cI cZ α) A (some .int)) : ∀ (n : Nat) (x1 : Int32) (x2 : Int32) (x3 : Int32) (σ : KS), Cr p l e (rmd 0) s m args below meth c 5 D (kwM cI cZ α) A vI 4 [(0, .ref (α 0)), (1, .int x1), (2, .int x2), (3, .int x3)] [] σ (f_X3_users_4 n x1 x2 x3 σ) := by
  intro n
  induction n with
  | zero => intros; exact r_none
  | succ n ih =>
    intro x1 x2 x3 σ
    rw [f_X3_users_4]
    refine r_iload_n X (j := 3) dX3_users_4 rfl rfl ?_
    refine r_bipush X (v := 16) dX3_users_5 (by decide) ?_
    refine r_icmp_ge X (tgt := 71) dX3_users_7 (by decide) (fun _ => ?_) (fun _ => ?_)
    · refine r_iload_n X (j := 2) dX3_users_71 rfl rfl ?_
      exact r_ireturn X dX3_users_72
    · refine r_iconst X (v := 0) dX3_users_10 (by decide) ?_
      refine r_istore X (lv' := [(4, .int 0), (0, .ref (α 0)), (1, .int x1), (2, .int x2), (3, .int x3)]) dX3_users_11 (by decide) rfl ?_
      refine r_sub (lv' := [(0, .ref (α 0)), (1, .int x1), (2, .int x2), (3, .int x3), (4, .int 0)]) [1, 2, 3, 4, 0] rfl ?_
      exact cl_X3_users_13 l D cI cZ α A hJ X (fun y1 y2 y3 σ => f_X3_users_4 n y1 y2 y3 σ) (fun y1 y2 y3 σ => ih y1 y2 y3 σ) FU x1 x2 x3 0 σ
set_option maxRecDepth 100000 in
set_option maxHeartbeats 4000000 in
theorem c_X3_users (l : Launch) (D : va_G) (cI cZ : ClassId) (α : Nat → Nat) (A : Nat → Prop) (hJ : ∀ σ, va_D A ((kwM cI cZ α) σ)) (x1 : Int32) (σ : KS) : Ct l D (tyA cI cZ) (kwM cI cZ α) A yX3_users cX3_users 5 (some .int) 0 vI [.ref (α 0), .int x1] σ (m_X3_users x1 σ) := by
  refine Ct.of (own := RX3) hJ (by decide) rfl (Nat.le_of_ble_eq_true rfl) ?_
  intro p e s m args below meth c X
  refine r_sub (lv' := [(0, .ref (α 0)), (1, .int x1)]) [0, 1] rfl ?_
  unfold m_X3_users
  refine r_iconst X (v := 0) dX3_users_0 (by decide) ?_
  refine r_istore_n X (lv' := [(2, .int 0), (0, .ref (α 0)), (1, .int x1)]) dX3_users_1 rfl (by decide) rfl ?_
  refine r_iconst X (v := 0) dX3_users_2 (by decide) ?_
  refine r_istore_n X (lv' := [(3, .int 0), (2, .int 0), (0, .ref (α 0)), (1, .int x1)]) dX3_users_3 rfl (by decide) rfl ?_
  refine r_sub (lv' := [(0, .ref (α 0)), (1, .int x1), (2, .int 0), (3, .int 0)]) [2, 3, 1, 0] rfl ?_
  exact cl_X3_users_4 l D cI cZ α A hJ X FU x1 0 0 σ
set_option maxRecDepth 100000 in
set_option maxHeartbeats 4000000 in
theorem c_X3_about (l : Launch) (D : va_G) (cI cZ : ClassId) (α : Nat → Nat) (A : Nat → Prop) (hJ : ∀ σ, va_D A ((kwM cI cZ α) σ)) (x1 x2 : Int32) (σ : KS) : Ct l D (tyA cI cZ) (kwM cI cZ α) A yX3_about cX3_about 3 (some .int) 1 vI [.ref (α 0), .int x1, .int x2] σ (m_X3_about x1 x2 σ) := by
  refine Ct.of (own := RX3) hJ (by decide) rfl (Nat.le_of_ble_eq_true rfl) ?_
  intro p e s m args below meth c X
  refine r_sub (lv' := [(0, .ref (α 0)), (1, .int x1), (2, .int x2)]) [0, 1, 2] rfl ?_
  unfold m_X3_about
  refine r_iload_n X (j := 1) dX3_about_0 rfl rfl ?_
  refine r_if_lt X (tgt := 20) dX3_about_1 (by decide) (fun _ => ?_) (fun _ => ?_)
  · refine r_bipush X (v := (-2)) dX3_about_20 (by decide) ?_
    exact r_ireturn X dX3_about_22
  · refine r_iload_n X (j := 1) dX3_about_4 rfl rfl ?_
    refine r_sipush X (v := 128) dX3_about_5 (by decide) ?_
    refine r_icmp_ge X (tgt := 20) dX3_about_8 (by decide) (fun _ => ?_) (fun _ => ?_)
    · refine r_bipush X (v := (-2)) dX3_about_20 (by decide) ?_
      exact r_ireturn X dX3_about_22
    · refine r_iload_n X (j := 2) dX3_about_11 rfl rfl ?_
      refine r_if_lt X (tgt := 20) dX3_about_12 (by decide) (fun _ => ?_) (fun _ => ?_)
      · refine r_bipush X (v := (-2)) dX3_about_20 (by decide) ?_
        exact r_ireturn X dX3_about_22
      · refine r_iload_n X (j := 2) dX3_about_15 rfl rfl ?_
        refine r_iconst X (v := 1) dX3_about_16 (by decide) ?_
        refine r_icmp_le X (tgt := 23) dX3_about_17 (by decide) (fun _ => ?_) (fun _ => ?_)
        · refine r_iload_n X (j := 2) dX3_about_23 rfl rfl ?_
          refine r_if_ne X (tgt := 34) dX3_about_24 (by decide) (fun _ => ?_) (fun _ => ?_)
          · refine r_aload_n X (j := 0) dX3_about_27 rfl rfl ?_
            refine r_get X (ci := 3) (q0 := 0) (v := .ref (α 2)) inX3 rfl rfl 1 (by decide) rfl fl_X3_13 dX3_about_28 ?_
            refine r_iload_n X (j := 1) dX3_about_31 rfl rfl ?_
            refine r_iald X (q0 := 2) (t0 := 0) (kk := 2) rfl rfl dX3_about_32 ?_
            exact r_ireturn X dX3_about_33
          · refine r_aload_n X (j := 0) dX3_about_34 rfl rfl ?_
            refine r_get X (ci := 3) (q0 := 0) (v := .ref (α 2)) inX3 rfl rfl 1 (by decide) rfl fl_X3_13 dX3_about_35 ?_
            refine r_iload_n X (j := 1) dX3_about_38 rfl rfl ?_
            refine r_iald X (q0 := 2) (t0 := 0) (kk := 2) rfl rfl dX3_about_39 ?_
            refine r_iconst X (v := 1) dX3_about_40 (by decide) ?_
            refine r_icmp_eq X (tgt := 54) dX3_about_41 (by decide) (fun _ => ?_) (fun _ => ?_)
            · refine r_aload_n X (j := 0) dX3_about_54 rfl rfl ?_
              refine r_iload_n X (j := 1) dX3_about_55 rfl rfl ?_
              refine r_callVi X (q0 := 0) (ci := 3) (n := 1) (As := [.int x1]) (st := []) (c_X3_smallIn l D cI cZ α A hJ x1 σ) ml_X3_73 im_X3_smallIn se_X3_smallIn ii_X3 co_X3_smallIn (by decide +kernel) ⟨Nat.le_of_ble_eq_true rfl, Nat.le_of_ble_eq_true rfl⟩ rfl rfl rfl rfl (Nat.le_of_ble_eq_true rfl) dX3_about_56 (fun r_56 σ_56 hc_56 => ?_)
              refine r_goto X (tgt := 81) dX3_about_59 (by decide) ?_
              exact r_ireturn X dX3_about_81
            · refine r_aload_n X (j := 0) dX3_about_44 rfl rfl ?_
              refine r_get X (ci := 3) (q0 := 0) (v := .ref (α 2)) inX3 rfl rfl 1 (by decide) rfl fl_X3_13 dX3_about_45 ?_
              refine r_iload_n X (j := 1) dX3_about_48 rfl rfl ?_
              refine r_iald X (q0 := 2) (t0 := 0) (kk := 2) rfl rfl dX3_about_49 ?_
              refine r_iconst X (v := 2) dX3_about_50 (by decide) ?_
              refine r_icmp_ne X (tgt := 62) dX3_about_51 (by decide) (fun _ => ?_) (fun _ => ?_)
              · refine r_aload_n X (j := 0) dX3_about_54 rfl rfl ?_
                refine r_iload_n X (j := 1) dX3_about_55 rfl rfl ?_
                refine r_callVi X (q0 := 0) (ci := 3) (n := 1) (As := [.int x1]) (st := []) (c_X3_smallIn l D cI cZ α A hJ x1 σ) ml_X3_73 im_X3_smallIn se_X3_smallIn ii_X3 co_X3_smallIn (by decide +kernel) ⟨Nat.le_of_ble_eq_true rfl, Nat.le_of_ble_eq_true rfl⟩ rfl rfl rfl rfl (Nat.le_of_ble_eq_true rfl) dX3_about_56 (fun r_56 σ_56 hc_56 => ?_)
                refine r_goto X (tgt := 81) dX3_about_59 (by decide) ?_
                exact r_ireturn X dX3_about_81
              · refine r_aload_n X (j := 0) dX3_about_62 rfl rfl ?_
                refine r_get X (ci := 3) (q0 := 0) (v := .ref (α 2)) inX3 rfl rfl 1 (by decide) rfl fl_X3_13 dX3_about_63 ?_
                refine r_iload_n X (j := 1) dX3_about_66 rfl rfl ?_
                refine r_iald X (q0 := 2) (t0 := 0) (kk := 2) rfl rfl dX3_about_67 ?_
                refine r_iconst X (v := 3) dX3_about_68 (by decide) ?_
                refine r_icmp_ne X (tgt := 80) dX3_about_69 (by decide) (fun _ => ?_) (fun _ => ?_)
                · refine r_aload_n X (j := 0) dX3_about_72 rfl rfl ?_
                  refine r_iload_n X (j := 1) dX3_about_73 rfl rfl ?_
                  refine r_callVi X (q0 := 0) (ci := 3) (n := 1) (As := [.int x1]) (st := []) (c_X3_users l D cI cZ α A hJ x1 σ) ml_X3_104 im_X3_users se_X3_users ii_X3 co_X3_users (by decide +kernel) ⟨Nat.le_of_ble_eq_true rfl, Nat.le_of_ble_eq_true rfl⟩ rfl rfl rfl rfl (Nat.le_of_ble_eq_true rfl) dX3_about_74 (fun r_74 σ_74 hc_74 => ?_)
                  refine r_goto X (tgt := 81) dX3_about_77 (by decide) ?_
                  exact r_ireturn X dX3_about_81
                · refine r_iconst X (v := 0) dX3_about_80 (by decide) ?_
                  exact r_ireturn X dX3_about_81
        · refine r_bipush X (v := (-2)) dX3_about_20 (by decide) ?_
          exact r_ireturn X dX3_about_22
set_option maxRecDepth 100000 in
set_option maxHeartbeats 4000000 in
theorem cl_X3_block_41 (l : Launch) (D : va_G) (cI cZ : ClassId) (α : Nat → Nat) (A : Nat → Prop) (hJ : ∀ σ, va_D A ((kwM cI cZ α) σ)) {p : Program} {e : Env} {s : State} {m : MethodId} {args : Array Value} {below : List Frame} {meth : Method} {c : Code} (X : CX p s m args meth c cX3_block 4 RX3 D (tyA cI cZ) (kwM cI cZ α) A (some .int)) : ∀ (n : Nat) (x1 : Int32) (x2 : Int32) (x3 : Int32) (σ : KS), Cr p l e (rmd 1) s m args below meth c 4 D (kwM cI cZ α) A vI 41 [(0, .ref (α 0)), (1, .int x1), (2, .int x2), (3, .int x3)] [] σ (f_X3_block_41 n x1 x2 x3 σ) := by
  intro n
  induction n with
  | zero => intros; exact r_none
  | succ n ih =>
    intro x1 x2 x3 σ
    rw [f_X3_block_41]
    refine r_iload_n X (j := 3) dX3_block_41 rfl rfl ?_
    refine r_iload_n X (j := 2) dX3_block_42 rfl rfl ?_
    refine r_iconst X (v := 1) dX3_block_43 (by decide) ?_
    refine r_iload_n X (j := 1) dX3_block_44 rfl rfl ?_
    refine r_ishl X dX3_block_45 ?_
    refine r_iadd X dX3_block_46 ?_
    refine r_icmp_ge X (tgt := 63) dX3_block_47 (by decide) (fun _ => ?_) (fun _ => ?_)
    · refine r_iload_n X (j := 2) dX3_block_63 rfl rfl ?_
      exact r_ireturn X dX3_block_64
    · refine r_aload_n X (j := 0) dX3_block_50 rfl rfl ?_
      refine r_get X (ci := 3) (q0 := 0) (v := .ref (α 2)) inX3 rfl rfl 1 (by decide) rfl fl_X3_13 dX3_block_51 ?_
      refine r_iload_n X (j := 3) dX3_block_54 rfl rfl ?_
      refine r_iconst X (v := 4) dX3_block_55 (by decide) ?_
      refine r_iast X (q0 := 2) (t0 := 0) (kk := 2) rfl (fun _ => rfl) rfl dX3_block_56 ?_
      refine r_iinc X (j := 3) (v := (x3 + 1)) (lv' := [(3, .int (x3 + 1)), (0, .ref (α 0)), (1, .int x1), (2, .int x2)]) dX3_block_57 rfl rfl (by decide) rfl ?_
      refine r_goto X (tgt := 41) dX3_block_60 (by decide) ?_
      refine r_sub (lv' := [(0, .ref (α 0)), (1, .int x1), (2, .int x2), (3, .int (x3 + 1))]) [1, 2, 3, 0] rfl ?_
      exact ih x1 x2 (x3 + 1) (wr σ 2 x3 4)
set_option maxRecDepth 100000 in
set_option maxHeartbeats 4000000 in
theorem c_X3_block (l : Launch) (D : va_G) (cI cZ : ClassId) (α : Nat → Nat) (A : Nat → Prop) (hJ : ∀ σ, va_D A ((kwM cI cZ α) σ)) (x1 : Int32) (σ : KS) : Ct l D (tyA cI cZ) (kwM cI cZ α) A yX3_block cX3_block 4 (some .int) 1 vI [.ref (α 0), .int x1] σ (m_X3_block x1 σ) := by
  refine Ct.of (own := RX3) hJ (by decide) rfl (Nat.le_of_ble_eq_true rfl) ?_
  intro p e s m args below meth c X
  refine r_sub (lv' := [(0, .ref (α 0)), (1, .int x1)]) [0, 1] rfl ?_
  unfold m_X3_block
  refine r_iload_n X (j := 1) dX3_block_0 rfl rfl ?_
  refine r_if_lt X (tgt := 10) dX3_block_1 (by decide) (fun _ => ?_) (fun _ => ?_)
  · refine r_bipush X (v := (-2)) dX3_block_10 (by decide) ?_
    exact r_ireturn X dX3_block_12
  · refine r_iload_n X (j := 1) dX3_block_4 rfl rfl ?_
    refine r_bipush X (v := 8) dX3_block_5 (by decide) ?_
    refine r_icmp_lt X (tgt := 13) dX3_block_7 (by decide) (fun _ => ?_) (fun _ => ?_)
    · refine r_aload_n X (j := 0) dX3_block_13 rfl rfl ?_
      refine r_callVv X (q0 := 0) (ci := 3) (n := 0) (As := []) (st := []) (c_X3_layAside l D cI cZ α A hJ σ) ml_X3_87 im_X3_layAside se_X3_layAside ii_X3 co_X3_layAside (by decide +kernel) ⟨Nat.le_of_ble_eq_true rfl, Nat.le_of_ble_eq_true rfl⟩ rfl rfl rfl rfl (Nat.le_of_ble_eq_true rfl) dX3_block_14 (fun r_14 σ_14 hc_14 => ?_)
      refine r_aload_n X (j := 0) dX3_block_17 rfl rfl ?_
      refine r_iload_n X (j := 1) dX3_block_18 rfl rfl ?_
      refine r_callVi X (q0 := 0) (ci := 3) (n := 1) (As := [.int x1]) (st := []) (c_X3_takeBlock l D cI cZ α A hJ x1 σ_14) ml_X3_59 im_X3_takeBlock se_X3_takeBlock ii_X3 co_X3_takeBlock (by decide +kernel) ⟨Nat.le_of_ble_eq_true rfl, Nat.le_of_ble_eq_true rfl⟩ rfl rfl rfl rfl (Nat.le_of_ble_eq_true rfl) dX3_block_19 (fun r_19 σ_19 hc_19 => ?_)
      refine r_istore_n X (lv' := [(2, .int r_19), (0, .ref (α 0)), (1, .int x1)]) dX3_block_22 rfl (by decide) rfl ?_
      refine r_iload_n X (j := 0) dX3_block_23 rfl rfl ?_
      refine r_if_ge X (tgt := 32) dX3_block_24 (by decide) (fun _ => ?_) (fun _ => ?_)
      · refine r_aload_n X (j := 1) dX3_block_32 rfl rfl ?_
        refine r_get X (ci := 3) (q0 := 0) (v := .ref (α 5)) inX3 rfl rfl 4 (by decide) rfl fl_X3_23 dX3_block_33 ?_
        refine r_iload_n X (j := 0) dX3_block_36 rfl rfl ?_
        refine r_iload_n X (j := 2) dX3_block_37 rfl rfl ?_
        refine r_iast X (q0 := 5) (t0 := 0) (kk := 5) rfl (fun _ => rfl) rfl dX3_block_38 ?_
        refine r_iload_n X (j := 0) dX3_block_39 rfl rfl ?_
        refine r_istore_n X (lv' := [(3, .int r_19), (2, .int r_19), (0, .ref (α 0)), (1, .int x1)]) dX3_block_40 rfl (by decide) rfl ?_
        refine r_sub (lv' := [(0, .ref (α 0)), (1, .int x1), (2, .int r_19), (3, .int r_19)]) [2, 3, 1, 0] rfl ?_
        exact cl_X3_block_41 l D cI cZ α A hJ X FU x1 r_19 r_19 (wr σ_19 5 r_19 x1)
      · refine r_aload_n X (j := 1) dX3_block_27 rfl rfl ?_
        refine r_callVi X (q0 := 0) (ci := 3) (n := 0) (As := []) (st := []) (c_X3_fail l D cI cZ α A hJ σ_19) ml_X3_93 im_X3_fail se_X3_fail ii_X3 co_X3_fail (by decide +kernel) ⟨Nat.le_of_ble_eq_true rfl, Nat.le_of_ble_eq_true rfl⟩ rfl rfl rfl rfl (Nat.le_of_ble_eq_true rfl) dX3_block_28 (fun r_28 σ_28 hc_28 => ?_)
        exact r_ireturn X dX3_block_31
    · refine r_bipush X (v := (-2)) dX3_block_10 (by decide) ?_
      exact r_ireturn X dX3_block_12
set_option maxRecDepth 100000 in
set_option maxHeartbeats 4000000 in
theorem c_X3_frame (l : Launch) (D : va_G) (cI cZ : ClassId) (α : Nat → Nat) (A : Nat → Prop) (hJ : ∀ σ, va_D A ((kwM cI cZ α) σ)) (x1 x2 : Int32) (σ : KS) : Ct l D (tyA cI cZ) (kwM cI cZ α) A yX3_frame cX3_frame 3 (some .int) 1 vI [.ref (α 0), .int x1, .int x2] σ (m_X3_frame x1 x2 σ) := by
  refine Ct.of (own := RX3) hJ (by decide) rfl (Nat.le_of_ble_eq_true rfl) ?_
  intro p e s m args below meth c X
  refine r_sub (lv' := [(0, .ref (α 0)), (1, .int x1), (2, .int x2)]) [0, 1, 2] rfl ?_
  unfold m_X3_frame
  refine r_aload_n X (j := 0) dX3_frame_0 rfl rfl ?_
  refine r_iload_n X (j := 1) dX3_frame_1 rfl rfl ?_
  refine r_callVi X (q0 := 0) (ci := 3) (n := 1) (As := [.int x1]) (st := []) (c_X3_isLive l D cI cZ α A hJ x1 σ) ml_X3_100 im_X3_isLive se_X3_isLive ii_X3 co_X3_isLive (by decide +kernel) ⟨Nat.le_of_ble_eq_true rfl, Nat.le_of_ble_eq_true rfl⟩ rfl rfl rfl rfl (Nat.le_of_ble_eq_true rfl) dX3_frame_2 (fun r_2 σ_2 hc_2 => ?_)
  refine r_if_eq X (tgt := 37) dX3_frame_5 (by decide) (fun _ => ?_) (fun _ => ?_)
  · refine r_iconst X (v := (-1)) dX3_frame_37 (by decide) ?_
    exact r_ireturn X dX3_frame_38
  · refine r_iload_n X (j := 2) dX3_frame_8 rfl rfl ?_
    refine r_if_lt X (tgt := 37) dX3_frame_9 (by decide) (fun _ => ?_) (fun _ => ?_)
    · refine r_iconst X (v := (-1)) dX3_frame_37 (by decide) ?_
      exact r_ireturn X dX3_frame_38
    · refine r_iload_n X (j := 2) dX3_frame_12 rfl rfl ?_
      refine r_aload_n X (j := 0) dX3_frame_13 rfl rfl ?_
      refine r_get X (ci := 3) (q0 := 0) (v := .ref (α 7)) inX3 rfl rfl 6 (by decide) rfl fl_X3_29 dX3_frame_14 ?_
      refine r_iload_n X (j := 1) dX3_frame_17 rfl rfl ?_
      refine r_iald X (q0 := 7) (t0 := 0) (kk := 7) rfl rfl dX3_frame_18 ?_
      refine r_icmp_ge X (tgt := 37) dX3_frame_19 (by decide) (fun _ => ?_) (fun _ => ?_)
      · refine r_iconst X (v := (-1)) dX3_frame_37 (by decide) ?_
        exact r_ireturn X dX3_frame_38
      · refine r_aload_n X (j := 0) dX3_frame_22 rfl rfl ?_
        refine r_get X (ci := 3) (q0 := 0) (v := .ref (α 11)) inX3 rfl rfl 10 (by decide) rfl fl_X3_41 dX3_frame_23 ?_
        refine r_sipush X (v := 256) dX3_frame_26 (by decide) ?_
        refine r_iload_n X (j := 1) dX3_frame_29 rfl rfl ?_
        refine r_imul X dX3_frame_30 ?_
        refine r_iload_n X (j := 2) dX3_frame_31 rfl rfl ?_
        refine r_iadd X dX3_frame_32 ?_
        refine r_iald X (q0 := 11) (t0 := 0) (kk := 11) rfl rfl dX3_frame_33 ?_
        refine r_goto X (tgt := 38) dX3_frame_34 (by decide) ?_
        exact r_ireturn X dX3_frame_38
set_option maxRecDepth 100000 in
set_option maxHeartbeats 4000000 in
theorem c_X3_giveSmall (l : Launch) (D : va_G) (cI cZ : ClassId) (α : Nat → Nat) (A : Nat → Prop) (hJ : ∀ σ, va_D A ((kwM cI cZ α) σ)) (x1 : Int32) (σ : KS) : Ct l D (tyA cI cZ) (kwM cI cZ α) A yX3_giveSmall cX3_giveSmall 2 none 1 vV [.ref (α 0), .int x1] σ (m_X3_giveSmall x1 σ) := by
  refine Ct.of (own := RX3) hJ (by decide) rfl (Nat.le_of_ble_eq_true rfl) ?_
  intro p e s m args below meth c X
  refine r_sub (lv' := [(0, .ref (α 0)), (1, .int x1)]) [0, 1] rfl ?_
  unfold m_X3_giveSmall
  refine r_aload_n X (j := 0) dX3_giveSmall_0 rfl rfl ?_
  refine r_get X (ci := 3) (q0 := 0) (v := .ref (α 3)) inX3 rfl rfl 2 (by decide) rfl fl_X3_17 dX3_giveSmall_1 ?_
  refine r_iload_n X (j := 1) dX3_giveSmall_4 rfl rfl ?_
  refine r_iconst X (v := 0) dX3_giveSmall_5 (by decide) ?_
  refine r_zast X (q0 := 3) (t0 := 1) (kk := 3) rfl (fun _ => rfl) rfl dX3_giveSmall_6 ?_
  refine r_aload_n X (j := 0) dX3_giveSmall_7 rfl rfl ?_
  refine r_iload_n X (j := 1) dX3_giveSmall_8 rfl rfl ?_
  refine r_iconst X (v := 4) dX3_giveSmall_9 (by decide) ?_
  refine r_idiv X dX3_giveSmall_10 (by decide) ?_
  refine r_callVi X (q0 := 0) (ci := 3) (n := 1) (As := [.int (x1 / 4)]) (st := []) (c_X3_smallIn l D cI cZ α A hJ (x1 / 4) (wr σ 3 x1 0)) ml_X3_73 im_X3_smallIn se_X3_smallIn ii_X3 co_X3_smallIn (by decide +kernel) ⟨Nat.le_of_ble_eq_true rfl, Nat.le_of_ble_eq_true rfl⟩ rfl rfl rfl rfl (Nat.le_of_ble_eq_true rfl) dX3_giveSmall_11 (fun r_11 σ_11 hc_11 => ?_)
  refine r_if_ne X (tgt := 25) dX3_giveSmall_14 (by decide) (fun _ => ?_) (fun _ => ?_)
  · refine r_aload_n X (j := 0) dX3_giveSmall_17 rfl rfl ?_
    refine r_iload_n X (j := 1) dX3_giveSmall_18 rfl rfl ?_
    refine r_iconst X (v := 4) dX3_giveSmall_19 (by decide) ?_
    refine r_idiv X dX3_giveSmall_20 (by decide) ?_
    refine r_iconst X (v := 0) dX3_giveSmall_21 (by decide) ?_
    refine r_callVv X (q0 := 0) (ci := 3) (n := 2) (As := [.int (x1 / 4), .int 0]) (st := []) (c_X3_giveBlock l D cI cZ α A hJ (x1 / 4) 0 σ_11) ml_X3_76 im_X3_giveBlock se_X3_giveBlock ii_X3 co_X3_giveBlock (by decide +kernel) ⟨Nat.le_of_ble_eq_true rfl, Nat.le_of_ble_eq_true rfl⟩ rfl rfl rfl rfl (Nat.le_of_ble_eq_true rfl) dX3_giveSmall_22 (fun r_22 σ_22 hc_22 => ?_)
    exact r_return X dX3_giveSmall_25
  · exact r_return X dX3_giveSmall_25
set_option maxRecDepth 100000 in
set_option maxHeartbeats 4000000 in
theorem c_X3_has (l : Launch) (D : va_G) (cI cZ : ClassId) (α : Nat → Nat) (A : Nat → Prop) (hJ : ∀ σ, va_D A ((kwM cI cZ α) σ)) (x1 x2 : Int32) (σ : KS) : Ct l D (tyA cI cZ) (kwM cI cZ α) A yX3_has cX3_has 3 (some .boolean) 1 vI [.ref (α 0), .int x1, .int x2] σ (m_X3_has x1 x2 σ) := by
  refine Ct.of (own := RX3) hJ (by decide) rfl (Nat.le_of_ble_eq_true rfl) ?_
  intro p e s m args below meth c X
  refine r_sub (lv' := [(0, .ref (α 0)), (1, .int x1), (2, .int x2)]) [0, 1, 2] rfl ?_
  unfold m_X3_has
  refine r_aload_n X (j := 0) dX3_has_0 rfl rfl ?_
  refine r_iload_n X (j := 1) dX3_has_1 rfl rfl ?_
  refine r_callVi X (q0 := 0) (ci := 3) (n := 1) (As := [.int x1]) (st := []) (c_X3_isLive l D cI cZ α A hJ x1 σ) ml_X3_100 im_X3_isLive se_X3_isLive ii_X3 co_X3_isLive (by decide +kernel) ⟨Nat.le_of_ble_eq_true rfl, Nat.le_of_ble_eq_true rfl⟩ rfl rfl rfl rfl (Nat.le_of_ble_eq_true rfl) dX3_has_2 (fun r_2 σ_2 hc_2 => ?_)
  refine r_if_eq X (tgt := 29) dX3_has_5 (by decide) (fun _ => ?_) (fun _ => ?_)
  · refine r_iconst X (v := 0) dX3_has_29 (by decide) ?_
    exact r_zreturn X (by decide) dX3_has_30
  · refine r_iload_n X (j := 2) dX3_has_8 rfl rfl ?_
    refine r_if_lt X (tgt := 29) dX3_has_9 (by decide) (fun _ => ?_) (fun _ => ?_)
    · refine r_iconst X (v := 0) dX3_has_29 (by decide) ?_
      exact r_zreturn X (by decide) dX3_has_30
    · refine r_iload_n X (j := 2) dX3_has_12 rfl rfl ?_
      refine r_bipush X (v := 64) dX3_has_13 (by decide) ?_
      refine r_idiv X dX3_has_15 (by decide) ?_
      refine r_aload_n X (j := 0) dX3_has_16 rfl rfl ?_
      refine r_get X (ci := 3) (q0 := 0) (v := .ref (α 7)) inX3 rfl rfl 6 (by decide) rfl fl_X3_29 dX3_has_17 ?_
      refine r_iload_n X (j := 1) dX3_has_20 rfl rfl ?_
      refine r_iald X (q0 := 7) (t0 := 0) (kk := 7) rfl rfl dX3_has_21 ?_
      refine r_icmp_ge X (tgt := 29) dX3_has_22 (by decide) (fun _ => ?_) (fun _ => ?_)
      · refine r_iconst X (v := 0) dX3_has_29 (by decide) ?_
        exact r_zreturn X (by decide) dX3_has_30
      · refine r_iconst X (v := 1) dX3_has_25 (by decide) ?_
        refine r_goto X (tgt := 30) dX3_has_26 (by decide) ?_
        exact r_zreturn X (by decide) dX3_has_30
