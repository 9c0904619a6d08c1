set_option maxRecDepth 100000 in
set_option maxHeartbeats 4000000 in
theorem c_X3_begin (l : Launch) (D : va_G) (cI cZ : ClassId) (α : Nat → Nat) (A : Nat → Prop) (hJ : ∀ σ, va_D A ((kwM cI cZ α) σ)) (x1 x2 x3 : Int32) (σ : KS) : Ct l D (tyA cI cZ) (kwM cI cZ α) A yX3_begin cX3_begin 4 none 0 vV [.ref (α 0), .int x1, .int x2, .int x3] σ (m_X3_begin x1 x2 x3 σ) := by
  refine Ct.of (own := RX3) hJ (by decide) rfl (Nat.le_of_ble_eq_true rfl) ?_
  intro p e s m args below meth c X
  refine r_sub (lv' := [(0, .ref (α 0)), (1, .int x1), (2, .int x2), (3, .int x3)]) [0, 1, 2, 3] rfl ?_
  unfold m_X3_begin
  refine r_aload_n X (j := 0) dX3_begin_0 rfl rfl ?_
  refine r_get X (ci := 3) (q0 := 0) (v := .ref (α 6)) inX3 rfl rfl 5 (by decide) rfl fl_X3_26 dX3_begin_1 ?_
  refine r_iload_n X (j := 1) dX3_begin_4 rfl rfl ?_
  refine r_iconst X (v := 1) dX3_begin_5 (by decide) ?_
  refine r_iast X (q0 := 6) (t0 := 0) (kk := 6) rfl (fun _ => rfl) rfl dX3_begin_6 ?_
  refine r_aload_n X (j := 0) dX3_begin_7 rfl rfl ?_
  refine r_get X (ci := 3) (q0 := 0) (v := .ref (α 10)) inX3 rfl rfl 9 (by decide) rfl fl_X3_38 dX3_begin_8 ?_
  refine r_iload_n X (j := 1) dX3_begin_11 rfl rfl ?_
  refine r_iload_n X (j := 2) dX3_begin_12 rfl rfl ?_
  refine r_iast X (q0 := 10) (t0 := 0) (kk := 10) rfl (fun _ => rfl) rfl dX3_begin_13 ?_
  refine r_aload_n X (j := 0) dX3_begin_14 rfl rfl ?_
  refine r_get X (ci := 3) (q0 := 0) (v := .ref (α 8)) inX3 rfl rfl 7 (by decide) rfl fl_X3_32 dX3_begin_15 ?_
  refine r_iload_n X (j := 1) dX3_begin_18 rfl rfl ?_
  refine r_iload_n X (j := 3) dX3_begin_19 rfl rfl ?_
  refine r_iast X (q0 := 8) (t0 := 0) (kk := 8) rfl (fun _ => rfl) rfl dX3_begin_20 ?_
  refine r_aload_n X (j := 0) dX3_begin_21 rfl rfl ?_
  refine r_get X (ci := 3) (q0 := 0) (v := .ref (α 7)) inX3 rfl rfl 6 (by decide) rfl fl_X3_29 dX3_begin_22 ?_
  refine r_iload_n X (j := 1) dX3_begin_25 rfl rfl ?_
  refine r_iconst X (v := 0) dX3_begin_26 (by decide) ?_
  refine r_iast X (q0 := 7) (t0 := 0) (kk := 7) rfl (fun _ => rfl) rfl dX3_begin_27 ?_
  refine r_aload_n X (j := 0) dX3_begin_28 rfl rfl ?_
  refine r_get X (ci := 3) (q0 := 0) (v := .ref (α 13)) inX3 rfl rfl 12 (by decide) rfl fl_X3_47 dX3_begin_29 ?_
  refine r_aload_n X (j := 0) dX3_begin_32 rfl rfl ?_
  refine r_get X (ci := 3) (q0 := 0) (v := .int (gv (wr (wr (wr (wr σ 6 x1 1) 10 x1 x2) 8 x1 x3) 7 x1 0) 0)) inX3 rfl rfl 13 (by decide) rfl fl_X3_80 dX3_begin_33 ?_
  refine r_iload_n X (j := 1) dX3_begin_36 rfl rfl ?_
  refine r_iast X (q0 := 13) (t0 := 0) (kk := 13) rfl (fun _ => rfl) rfl dX3_begin_37 ?_
  refine r_aload_n X (j := 0) dX3_begin_38 rfl rfl ?_
  refine r_dup X dX3_begin_39 rfl ?_
  refine r_get X (ci := 3) (q0 := 0) (v := .int (gv (wr (wr (wr (wr (wr σ 6 x1 1) 10 x1 x2) 8 x1 x3) 7 x1 0) 13 (gv (wr (wr (wr (wr σ 6 x1 1) 10 x1 x2) 8 x1 x3) 7 x1 0) 0) x1) 0)) inX3 rfl rfl 13 (by decide) rfl fl_X3_80 dX3_begin_40 ?_
  refine r_iconst X (v := 1) dX3_begin_43 (by decide) ?_
  refine r_iadd X dX3_begin_44 ?_
  refine r_put X (ci := 3) (q0 := 0) (j := 0) inX3 rfl tyX3_ok nmX3 rfl 13 (by decide) rfl fl_X3_80 rfl (by decide +kernel) (Nat.le_of_ble_eq_true rfl) dX3_begin_45 ?_
  exact r_return X dX3_begin_48
set_option maxRecDepth 100000 in
set_option maxHeartbeats 4000000 in
theorem c_X3_current (l : Launch) (D : va_G) (cI cZ : ClassId) (α : Nat → Nat) (A : Nat → Prop) (hJ : ∀ σ, va_D A ((kwM cI cZ α) σ)) (σ : KS) : Ct l D (tyA cI cZ) (kwM cI cZ α) A yX3_current cX3_current 1 (some .int) 0 vI [.ref (α 0)] σ (m_X3_current σ) := by
  refine Ct.of (own := RX3) hJ (by decide) rfl (Nat.le_of_ble_eq_true rfl) ?_
  intro p e s m args below meth c X
  refine r_sub (lv' := [(0, .ref (α 0))]) [0] rfl ?_
  unfold m_X3_current
  refine r_aload_n X (j := 0) dX3_current_0 rfl rfl ?_
  refine r_get X (ci := 3) (q0 := 0) (v := .int (gv σ 0)) inX3 rfl rfl 13 (by decide) rfl fl_X3_80 dX3_current_1 ?_
  refine r_if_ne X (tgt := 11) dX3_current_4 (by decide) (fun _ => ?_) (fun _ => ?_)
  · refine r_iconst X (v := (-1)) dX3_current_7 (by decide) ?_
    refine r_goto X (tgt := 17) dX3_current_8 (by decide) ?_
    exact r_ireturn X dX3_current_17
  · refine r_aload_n X (j := 0) dX3_current_11 rfl rfl ?_
    refine r_get X (ci := 3) (q0 := 0) (v := .ref (α 13)) inX3 rfl rfl 12 (by decide) rfl fl_X3_47 dX3_current_12 ?_
    refine r_iconst X (v := 0) dX3_current_15 (by decide) ?_
    refine r_iald X (q0 := 13) (t0 := 0) (kk := 13) rfl rfl dX3_current_16 ?_
    exact r_ireturn X dX3_current_17
set_option maxRecDepth 100000 in
set_option maxHeartbeats 4000000 in
theorem cl_X3_fail_56 (l : Launch) (D : va_G) (cI cZ : ClassId) (α : Nat → Nat) (A : Nat → Prop) (hJ : ∀ σ, va_D A ((kwM cI cZ α) σ)) {p : Program} {e : Env} {s : State} {m : MethodId} {args : Array Value} {below : List Frame} {meth : Method} {c : Code} (X : CX p s m args meth c cX3_fail 2 RX3 D (tyA cI cZ) (kwM cI cZ α) A (some .int)) : ∀ (n : Nat) (x1 : Int32) (σ : KS), Cr p l e (rmd 0) s m args below meth c 2 D (kwM cI cZ α) A vI 56 [(0, .ref (α 0)), (1, .int x1)] [] σ (f_X3_fail_56 n x1 σ) := by
  intro n
  induction n with
  | zero => intros; exact r_none
  | succ n ih =>
    intro x1 σ
    rw [f_X3_fail_56]
    refine r_iload_n X (j := 1) dX3_fail_56 rfl rfl ?_
    refine r_sipush X (v := 512) dX3_fail_57 (by decide) ?_
    refine r_icmp_ge X (tgt := 81) dX3_fail_60 (by decide) (fun _ => ?_) (fun _ => ?_)
    · refine r_aload_n X (j := 0) dX3_fail_81 rfl rfl ?_
      refine r_dup X dX3_fail_82 rfl ?_
      refine r_get X (ci := 3) (q0 := 0) (v := .int (gv σ 2)) inX3 rfl rfl 15 (by decide) rfl fl_X3_63 dX3_fail_83 ?_
      refine r_iconst X (v := 1) dX3_fail_86 (by decide) ?_
      refine r_iadd X dX3_fail_87 ?_
      refine r_put X (ci := 3) (q0 := 0) (j := 2) inX3 rfl tyX3_ok nmX3 rfl 15 (by decide) rfl fl_X3_63 rfl (by decide +kernel) (Nat.le_of_ble_eq_true rfl) dX3_fail_88 ?_
      refine r_bipush X (v := (-3)) dX3_fail_91 (by decide) ?_
      exact r_ireturn X dX3_fail_93
    · refine r_aload_n X (j := 0) dX3_fail_63 rfl rfl ?_
      refine r_get X (ci := 3) (q0 := 0) (v := .ref (α 3)) inX3 rfl rfl 2 (by decide) rfl fl_X3_17 dX3_fail_64 ?_
      refine r_iload_n X (j := 1) dX3_fail_67 rfl rfl ?_
      refine r_aload_n X (j := 0) dX3_fail_68 rfl rfl ?_
      refine r_get X (ci := 3) (q0 := 0) (v := .ref (α 16)) inX3 rfl rfl 19 (by decide) rfl fl_X3_56 dX3_fail_69 ?_
      refine r_iload_n X (j := 1) dX3_fail_72 rfl rfl ?_
      refine r_zald X (q0 := 16) (t0 := 1) (kk := 16) rfl rfl dX3_fail_73 ?_
      refine r_zast X (q0 := 3) (t0 := 1) (kk := 3) rfl (fun _ => rfl) rfl dX3_fail_74 ?_
      refine r_iinc X (j := 1) (v := (x1 + 1)) (lv' := [(1, .int (x1 + 1)), (0, .ref (α 0))]) dX3_fail_75 rfl rfl (by decide) rfl ?_
      refine r_goto X (tgt := 56) dX3_fail_78 (by decide) ?_
      refine r_sub (lv' := [(0, .ref (α 0)), (1, .int (x1 + 1))]) [1, 0] rfl ?_
      exact ih (x1 + 1) (wr σ 3 x1 (rd σ 16 x1))
set_option maxRecDepth 100000 in
set_option maxHeartbeats 4000000 in
theorem cl_X3_fail_29 (l : Launch) (D : va_G) (cI cZ : ClassId) (α : Nat → Nat) (A : Nat → Prop) (hJ : ∀ σ, va_D A ((kwM cI cZ α) σ)) {p : Program} {e : Env} {s : State} {m : MethodId} {args : Array Value} {below : List Frame} {meth : Method} {c : Code} (X : CX p s m args meth c cX3_fail 2 RX3 D (tyA cI cZ) (kwM cI cZ α) A (some .int)) : ∀ (n : Nat) (x1 : Int32) (σ : KS), Cr p l e (rmd 0) s m args below meth c 2 D (kwM cI cZ α) A vI 29 [(0, .ref (α 0)), (1, .int x1)] [] σ (f_X3_fail_29 n x1 σ) := by
  intro n
  induction n with
  | zero => intros; exact r_none
  | succ n ih =>
    intro x1 σ
    rw [f_X3_fail_29]
    refine r_iload_n X (j := 1) dX3_fail_29 rfl rfl ?_
    refine r_sipush X (v := 128) dX3_fail_30 (by decide) ?_
    refine r_icmp_ge X (tgt := 54) dX3_fail_33 (by decide) (fun _ => ?_) (fun _ => ?_)
    · refine r_iconst X (v := 0) dX3_fail_54 (by decide) ?_
      refine r_istore_n X (lv' := [(1, .int 0), (0, .ref (α 0))]) dX3_fail_55 rfl (by decide) rfl ?_
      refine r_sub (lv' := [(0, .ref (α 0)), (1, .int 0)]) [1, 0] rfl ?_
      exact cl_X3_fail_56 l D cI cZ α A hJ X FU 0 σ
    · refine r_aload_n X (j := 0) dX3_fail_36 rfl rfl ?_
      refine r_get X (ci := 3) (q0 := 0) (v := .ref (α 2)) inX3 rfl rfl 1 (by decide) rfl fl_X3_13 dX3_fail_37 ?_
      refine r_iload_n X (j := 1) dX3_fail_40 rfl rfl ?_
      refine r_aload_n X (j := 0) dX3_fail_41 rfl rfl ?_
      refine r_get X (ci := 3) (q0 := 0) (v := .ref (α 15)) inX3 rfl rfl 18 (by decide) rfl fl_X3_53 dX3_fail_42 ?_
      refine r_iload_n X (j := 1) dX3_fail_45 rfl rfl ?_
      refine r_iald X (q0 := 15) (t0 := 0) (kk := 15) rfl rfl dX3_fail_46 ?_
      refine r_iast X (q0 := 2) (t0 := 0) (kk := 2) rfl (fun _ => rfl) rfl dX3_fail_47 ?_
      refine r_iinc X (j := 1) (v := (x1 + 1)) (lv' := [(1, .int (x1 + 1)), (0, .ref (α 0))]) dX3_fail_48 rfl rfl (by decide) rfl ?_
      refine r_goto X (tgt := 29) dX3_fail_51 (by decide) ?_
      refine r_sub (lv' := [(0, .ref (α 0)), (1, .int (x1 + 1))]) [1, 0] rfl ?_
      exact ih (x1 + 1) (wr σ 2 x1 (rd σ 15 x1))
set_option maxRecDepth 100000 in
set_option maxHeartbeats 4000000 in
theorem cl_X3_fail_2 (l : Launch) (D : va_G) (cI cZ : ClassId) (α : Nat → Nat) (A : Nat → Prop) (hJ : ∀ σ, va_D A ((kwM cI cZ α) σ)) {p : Program} {e : Env} {s : State} {m : MethodId} {args : Array Value} {below : List Frame} {meth : Method} {c : Code} (X : CX p s m args meth c cX3_fail 2 RX3 D (tyA cI cZ) (kwM cI cZ α) A (some .int)) : ∀ (n : Nat) (x1 : Int32) (σ : KS), Cr p l e (rmd 0) s m args below meth c 2 D (kwM cI cZ α) A vI 2 [(0, .ref (α 0)), (1, .int x1)] [] σ (f_X3_fail_2 n x1 σ) := by
  intro n
  induction n with
  | zero => intros; exact r_none
  | succ n ih =>
    intro x1 σ
    rw [f_X3_fail_2]
    refine r_iload_n X (j := 1) dX3_fail_2 rfl rfl ?_
    refine r_sipush X (v := 1024) dX3_fail_3 (by decide) ?_
    refine r_icmp_ge X (tgt := 27) dX3_fail_6 (by decide) (fun _ => ?_) (fun _ => ?_)
    · refine r_iconst X (v := 0) dX3_fail_27 (by decide) ?_
      refine r_istore_n X (lv' := [(1, .int 0), (0, .ref (α 0))]) dX3_fail_28 rfl (by decide) rfl ?_
      refine r_sub (lv' := [(0, .ref (α 0)), (1, .int 0)]) [1, 0] rfl ?_
      exact cl_X3_fail_29 l D cI cZ α A hJ X FU 0 σ
    · refine r_aload_n X (j := 0) dX3_fail_9 rfl rfl ?_
      refine r_get X (ci := 3) (q0 := 0) (v := .ref (α 1)) inX3 rfl rfl 0 (by decide) rfl fl_X3_7 dX3_fail_10 ?_
      refine r_iload_n X (j := 1) dX3_fail_13 rfl rfl ?_
      refine r_aload_n X (j := 0) dX3_fail_14 rfl rfl ?_
      refine r_get X (ci := 3) (q0 := 0) (v := .ref (α 14)) inX3 rfl rfl 17 (by decide) rfl fl_X3_50 dX3_fail_15 ?_
      refine r_iload_n X (j := 1) dX3_fail_18 rfl rfl ?_
      refine r_zald X (q0 := 14) (t0 := 1) (kk := 14) rfl rfl dX3_fail_19 ?_
      refine r_zast X (q0 := 1) (t0 := 1) (kk := 1) rfl (fun _ => rfl) rfl dX3_fail_20 ?_
      refine r_iinc X (j := 1) (v := (x1 + 1)) (lv' := [(1, .int (x1 + 1)), (0, .ref (α 0))]) dX3_fail_21 rfl rfl (by decide) rfl ?_
      refine r_goto X (tgt := 2) dX3_fail_24 (by decide) ?_
      refine r_sub (lv' := [(0, .ref (α 0)), (1, .int (x1 + 1))]) [1, 0] rfl ?_
      exact ih (x1 + 1) (wr σ 1 x1 (rd σ 14 x1))
set_option maxRecDepth 100000 in
set_option maxHeartbeats 4000000 in
theorem c_X3_fail (l : Launch) (D : va_G) (cI cZ : ClassId) (α : Nat → Nat) (A : Nat → Prop) (hJ : ∀ σ, va_D A ((kwM cI cZ α) σ)) (σ : KS) : Ct l D (tyA cI cZ) (kwM cI cZ α) A yX3_fail cX3_fail 2 (some .int) 0 vI [.ref (α 0)] σ (m_X3_fail σ) := by
  refine Ct.of (own := RX3) hJ (by decide) rfl (Nat.le_of_ble_eq_true rfl) ?_
  intro p e s m args below meth c X
  refine r_sub (lv' := [(0, .ref (α 0))]) [0] rfl ?_
  unfold m_X3_fail
  refine r_iconst X (v := 0) dX3_fail_0 (by decide) ?_
  refine r_istore_n X (lv' := [(1, .int 0), (0, .ref (α 0))]) dX3_fail_1 rfl (by decide) rfl ?_
  refine r_sub (lv' := [(0, .ref (α 0)), (1, .int 0)]) [1, 0] rfl ?_
  exact cl_X3_fail_2 l D cI cZ α A hJ X FU 0 σ
set_option maxRecDepth 100000 in
set_option maxHeartbeats 4000000 in
theorem cl_X3_free_30 (l : Launch) (D : va_G) (cI cZ : ClassId) (α : Nat → Nat) (A : Nat → Prop) (hJ : ∀ σ, va_D A ((kwM cI cZ α) σ)) {p : Program} {e : Env} {s : State} {m : MethodId} {args : Array Value} {below : List Frame} {meth : Method} {c : Code} (X : CX p s m args meth c cX3_free 6 RX3 D (tyA cI cZ) (kwM cI cZ α) A (some .int)) : ∀ (n : Nat) (x1 : Int32) (x2 : Int32) (x3 : Int32) (x4 : Int32) (x5 : Int32) (σ : KS), Cr p l e (rmd 0) s m args below meth c 6 D (kwM cI cZ α) A vI 30 [(0, .ref (α 0)), (1, .int x1), (2, .int x2), (3, .int x3), (4, .int x4), (5, .int x5)] [] σ (f_X3_free_30 n x1 x2 x3 x4 x5 σ) := by
  intro n
  induction n with
  | zero => intros; exact r_none
  | succ n ih =>
    intro x1 x2 x3 x4 x5 σ
    rw [f_X3_free_30]
    refine r_iload X (j := 5) dX3_free_30 rfl ?_
    refine r_sipush X (v := 128) dX3_free_32 (by decide) ?_
    refine r_icmp_ge X (tgt := 77) dX3_free_35 (by decide) (fun _ => ?_) (fun _ => ?_)
    · refine r_iload_n X (j := 2) dX3_free_77 rfl rfl ?_
      refine r_if_ne X (tgt := 85) dX3_free_78 (by decide) (fun _ => ?_) (fun _ => ?_)
      · refine r_iload_n X (j := 3) dX3_free_81 rfl rfl ?_
        refine r_goto X (tgt := 87) dX3_free_82 (by decide) ?_
        exact r_ireturn X dX3_free_87
      · refine r_iload X (j := 4) dX3_free_85 rfl ?_
        exact r_ireturn X dX3_free_87
    · refine r_aload_n X (j := 0) dX3_free_38 rfl rfl ?_
      refine r_get X (ci := 3) (q0 := 0) (v := .ref (α 1)) inX3 rfl rfl 0 (by decide) rfl fl_X3_7 dX3_free_39 ?_
      refine r_sipush X (v := 128) dX3_free_42 (by decide) ?_
      refine r_iload_n X (j := 1) dX3_free_45 rfl rfl ?_
      refine r_imul X dX3_free_46 ?_
      refine r_iload X (j := 5) dX3_free_47 rfl ?_
      refine r_iadd X dX3_free_49 ?_
      refine r_zald X (q0 := 1) (t0 := 1) (kk := 1) rfl rfl dX3_free_50 ?_
      refine r_if_eq X (tgt := 71) dX3_free_51 (by decide) (fun _ => ?_) (fun _ => ?_)
      · refine r_iinc X (j := 5) (v := (x5 + 1)) (lv' := [(5, .int (x5 + 1)), (0, .ref (α 0)), (1, .int x1), (2, .int x2), (3, .int x3), (4, .int x4)]) dX3_free_71 rfl rfl (by decide) rfl ?_
        refine r_goto X (tgt := 30) dX3_free_74 (by decide) ?_
        refine r_sub (lv' := [(0, .ref (α 0)), (1, .int x1), (2, .int x2), (3, .int x3), (4, .int x4), (5, .int (x5 + 1))]) [1, 2, 3, 4, 5, 0] rfl ?_
        exact ih x1 x2 x3 x4 (x5 + 1) σ
      · refine r_iinc X (j := 3) (v := (x3 + 1)) (lv' := [(3, .int (x3 + 1)), (0, .ref (α 0)), (1, .int x1), (2, .int x2), (4, .int x4), (5, .int x5)]) dX3_free_54 rfl rfl (by decide) rfl ?_
        refine r_iload X (j := 4) dX3_free_57 rfl ?_
        refine r_if_ge X (tgt := 67) dX3_free_59 (by decide) (fun _ => ?_) (fun _ => ?_)
        · refine r_iload X (j := 4) dX3_free_67 rfl ?_
          refine r_istore X (lv' := [(4, .int x4), (3, .int (x3 + 1)), (0, .ref (α 0)), (1, .int x1), (2, .int x2), (5, .int x5)]) dX3_free_69 (by decide) rfl ?_
          refine r_iinc X (j := 5) (v := (x5 + 1)) (lv' := [(5, .int (x5 + 1)), (4, .int x4), (3, .int (x3 + 1)), (0, .ref (α 0)), (1, .int x1), (2, .int x2)]) dX3_free_71 rfl rfl (by decide) rfl ?_
          refine r_goto X (tgt := 30) dX3_free_74 (by decide) ?_
          refine r_sub (lv' := [(0, .ref (α 0)), (1, .int x1), (2, .int x2), (3, .int (x3 + 1)), (4, .int x4), (5, .int (x5 + 1))]) [3, 4, 5, 2, 1, 0] rfl ?_
          exact ih x1 x2 (x3 + 1) x4 (x5 + 1) σ
        · refine r_iload X (j := 5) dX3_free_62 rfl ?_
          refine r_goto X (tgt := 69) dX3_free_64 (by decide) ?_
          refine r_istore X (lv' := [(4, .int x5), (3, .int (x3 + 1)), (0, .ref (α 0)), (1, .int x1), (2, .int x2), (5, .int x5)]) dX3_free_69 (by decide) rfl ?_
          refine r_iinc X (j := 5) (v := (x5 + 1)) (lv' := [(5, .int (x5 + 1)), (4, .int x5), (3, .int (x3 + 1)), (0, .ref (α 0)), (1, .int x1), (2, .int x2)]) dX3_free_71 rfl rfl (by decide) rfl ?_
          refine r_goto X (tgt := 30) dX3_free_74 (by decide) ?_
          refine r_sub (lv' := [(0, .ref (α 0)), (1, .int x1), (2, .int x2), (3, .int (x3 + 1)), (4, .int x5), (5, .int (x5 + 1))]) [3, 4, 5, 2, 1, 0] rfl ?_
          exact ih x1 x2 (x3 + 1) x5 (x5 + 1) σ
set_option maxRecDepth 100000 in
set_option maxHeartbeats 4000000 in
theorem c_X3_free (l : Launch) (D : va_G) (cI cZ : ClassId) (α : Nat → Nat) (A : Nat → Prop) (hJ : ∀ σ, va_D A ((kwM cI cZ α) σ)) (x1 x2 : Int32) (σ : KS) : Ct l D (tyA cI cZ) (kwM cI cZ α) A yX3_free cX3_free 6 (some .int) 0 vI [.ref (α 0), .int x1, .int x2] σ (m_X3_free x1 x2 σ) := by
  refine Ct.of (own := RX3) hJ (by decide) rfl (Nat.le_of_ble_eq_true rfl) ?_
  intro p e s m args below meth c X
  refine r_sub (lv' := [(0, .ref (α 0)), (1, .int x1), (2, .int x2)]) [0, 1, 2] rfl ?_
  unfold m_X3_free
  refine r_iload_n X (j := 1) dX3_free_0 rfl rfl ?_
  refine r_if_lt X (tgt := 19) dX3_free_1 (by decide) (fun _ => ?_) (fun _ => ?_)
  · refine r_bipush X (v := (-2)) dX3_free_19 (by decide) ?_
    exact r_ireturn X dX3_free_21
  · refine r_iload_n X (j := 1) dX3_free_4 rfl rfl ?_
    refine r_bipush X (v := 8) dX3_free_5 (by decide) ?_
    refine r_icmp_ge X (tgt := 19) dX3_free_7 (by decide) (fun _ => ?_) (fun _ => ?_)
    · refine r_bipush X (v := (-2)) dX3_free_19 (by decide) ?_
      exact r_ireturn X dX3_free_21
    · refine r_iload_n X (j := 2) dX3_free_10 rfl rfl ?_
      refine r_if_lt X (tgt := 19) dX3_free_11 (by decide) (fun _ => ?_) (fun _ => ?_)
      · refine r_bipush X (v := (-2)) dX3_free_19 (by decide) ?_
        exact r_ireturn X dX3_free_21
      · refine r_iload_n X (j := 2) dX3_free_14 rfl rfl ?_
        refine r_iconst X (v := 1) dX3_free_15 (by decide) ?_
        refine r_icmp_le X (tgt := 22) dX3_free_16 (by decide) (fun _ => ?_) (fun _ => ?_)
        · refine r_iconst X (v := 0) dX3_free_22 (by decide) ?_
          refine r_istore_n X (lv' := [(3, .int 0), (0, .ref (α 0)), (1, .int x1), (2, .int x2)]) dX3_free_23 rfl (by decide) rfl ?_
          refine r_iconst X (v := (-1)) dX3_free_24 (by decide) ?_
          refine r_istore X (lv' := [(4, .int (-1)), (3, .int 0), (0, .ref (α 0)), (1, .int x1), (2, .int x2)]) dX3_free_25 (by decide) rfl ?_
          refine r_iconst X (v := 0) dX3_free_27 (by decide) ?_
          refine r_istore X (lv' := [(5, .int 0), (4, .int (-1)), (3, .int 0), (0, .ref (α 0)), (1, .int x1), (2, .int x2)]) dX3_free_28 (by decide) rfl ?_
          refine r_sub (lv' := [(0, .ref (α 0)), (1, .int x1), (2, .int x2), (3, .int 0), (4, .int (-1)), (5, .int 0)]) [3, 4, 5, 2, 1, 0] rfl ?_
          exact cl_X3_free_30 l D cI cZ α A hJ X FU x1 x2 0 (-1) 0 σ
        · refine r_bipush X (v := (-2)) dX3_free_19 (by decide) ?_
          exact r_ireturn X dX3_free_21
set_option maxRecDepth 100000 in
set_option maxHeartbeats 4000000 in
theorem cl_X3_freeFrames_4 (l : Launch) (D : va_G) (cI cZ : ClassId) (α : Nat → Nat) (A : Nat → Prop) (hJ : ∀ σ, va_D A ((kwM cI cZ α) σ)) {p : Program} {e : Env} {s : State} {m : MethodId} {args : Array Value} {below : List Frame} {meth : Method} {c : Code} (X : CX p s m args meth c cX3_freeFrames 3 RX3 D (tyA cI cZ) (kwM cI cZ α) A (some .int)) : ∀ (n : Nat) (x1 : Int32) (x2 : Int32) (σ : KS), Cr p l e (rmd 0) s m args below meth c 3 D (kwM cI cZ α) A vI 4 [(0, .ref (α 0)), (1, .int x1), (2, .int x2)] [] σ (f_X3_freeFrames_4 n x1 x2 σ) := by
  intro n
  induction n with
  | zero => intros; exact r_none
  | succ n ih =>
    intro x1 x2 σ
    rw [f_X3_freeFrames_4]
    refine r_iload_n X (j := 2) dX3_freeFrames_4 rfl rfl ?_
    refine r_sipush X (v := 128) dX3_freeFrames_5 (by decide) ?_
    refine r_icmp_ge X (tgt := 34) dX3_freeFrames_8 (by decide) (fun _ => ?_) (fun _ => ?_)
    · refine r_iload_n X (j := 1) dX3_freeFrames_34 rfl rfl ?_
      exact r_ireturn X dX3_freeFrames_35
    · refine r_iload_n X (j := 1) dX3_freeFrames_11 rfl rfl ?_
      refine r_aload_n X (j := 0) dX3_freeFrames_12 rfl rfl ?_
      refine r_get X (ci := 3) (q0 := 0) (v := .ref (α 2)) inX3 rfl rfl 1 (by decide) rfl fl_X3_13 dX3_freeFrames_13 ?_
      refine r_iload_n X (j := 2) dX3_freeFrames_16 rfl rfl ?_
      refine r_iald X (q0 := 2) (t0 := 0) (kk := 2) rfl rfl dX3_freeFrames_17 ?_
      refine r_if_ne X (tgt := 25) dX3_freeFrames_18 (by decide) (fun _ => ?_) (fun _ => ?_)
      · refine r_iconst X (v := 1) dX3_freeFrames_21 (by decide) ?_
        refine r_goto X (tgt := 26) dX3_freeFrames_22 (by decide) ?_
        refine r_iadd X dX3_freeFrames_26 ?_
        refine r_istore_n X (lv' := [(1, .int (x1 + 1)), (0, .ref (α 0)), (2, .int x2)]) dX3_freeFrames_27 rfl (by decide) rfl ?_
        refine r_iinc X (j := 2) (v := (x2 + 1)) (lv' := [(2, .int (x2 + 1)), (1, .int (x1 + 1)), (0, .ref (α 0))]) dX3_freeFrames_28 rfl rfl (by decide) rfl ?_
        refine r_goto X (tgt := 4) dX3_freeFrames_31 (by decide) ?_
        refine r_sub (lv' := [(0, .ref (α 0)), (1, .int (x1 + 1)), (2, .int (x2 + 1))]) [2, 1, 0] rfl ?_
        exact ih (x1 + 1) (x2 + 1) σ
      · refine r_iconst X (v := 0) dX3_freeFrames_25 (by decide) ?_
        refine r_iadd X dX3_freeFrames_26 ?_
        refine r_istore_n X (lv' := [(1, .int (x1 + 0)), (0, .ref (α 0)), (2, .int x2)]) dX3_freeFrames_27 rfl (by decide) rfl ?_
        refine r_iinc X (j := 2) (v := (x2 + 1)) (lv' := [(2, .int (x2 + 1)), (1, .int (x1 + 0)), (0, .ref (α 0))]) dX3_freeFrames_28 rfl rfl (by decide) rfl ?_
        refine r_goto X (tgt := 4) dX3_freeFrames_31 (by decide) ?_
        refine r_sub (lv' := [(0, .ref (α 0)), (1, .int (x1 + 0)), (2, .int (x2 + 1))]) [2, 1, 0] rfl ?_
        exact ih (x1 + 0) (x2 + 1) σ
set_option maxRecDepth 100000 in
set_option maxHeartbeats 4000000 in
theorem c_X3_freeFrames (l : Launch) (D : va_G) (cI cZ : ClassId) (α : Nat → Nat) (A : Nat → Prop) (hJ : ∀ σ, va_D A ((kwM cI cZ α) σ)) (σ : KS) : Ct l D (tyA cI cZ) (kwM cI cZ α) A yX3_freeFrames cX3_freeFrames 3 (some .int) 0 vI [.ref (α 0)] σ (m_X3_freeFrames σ) := by
  refine Ct.of (own := RX3) hJ (by decide) rfl (Nat.le_of_ble_eq_true rfl) ?_
  intro p e s m args below meth c X
  refine r_sub (lv' := [(0, .ref (α 0))]) [0] rfl ?_
  unfold m_X3_freeFrames
  refine r_iconst X (v := 0) dX3_freeFrames_0 (by decide) ?_
  refine r_istore_n X (lv' := [(1, .int 0), (0, .ref (α 0))]) dX3_freeFrames_1 rfl (by decide) rfl ?_
  refine r_iconst X (v := 0) dX3_freeFrames_2 (by decide) ?_
  refine r_istore_n X (lv' := [(2, .int 0), (1, .int 0), (0, .ref (α 0))]) dX3_freeFrames_3 rfl (by decide) rfl ?_
  refine r_sub (lv' := [(0, .ref (α 0)), (1, .int 0), (2, .int 0)]) [2, 1, 0] rfl ?_
  exact cl_X3_freeFrames_4 l D cI cZ α A hJ X FU 0 0 σ
set_option maxRecDepth 100000 in
set_option maxHeartbeats 4000000 in
theorem cl_X3_freePlace_4 (l : Launch) (D : va_G) (cI cZ : ClassId) (α : Nat → Nat) (A : Nat → Prop) (hJ : ∀ σ, va_D A ((kwM cI cZ α) σ)) {p : Program} {e : Env} {s : State} {m : MethodId} {args : Array Value} {below : List Frame} {meth : Method} {c : Code} (X : CX p s m args meth c cX3_freePlace 3 RX3 D (tyA cI cZ) (kwM cI cZ α) A (some .int)) : ∀ (n : Nat) (x1 : Int32) (x2 : Int32) (σ : KS), Cr p l e (rmd 0) s m args below meth c 3 D (kwM cI cZ α) A vI 4 [(0, .ref (α 0)), (1, .int x1), (2, .int x2)] [] σ (f_X3_freePlace_4 n x1 x2 σ) := by
  intro n
  induction n with
  | zero => intros; exact r_none
  | succ n ih =>
    intro x1 x2 σ
    rw [f_X3_freePlace_4]
    refine r_iload_n X (j := 2) dX3_freePlace_4 rfl rfl ?_
    refine r_iconst X (v := 4) dX3_freePlace_5 (by decide) ?_
    refine r_iload_n X (j := 1) dX3_freePlace_6 rfl rfl ?_
    refine r_imul X dX3_freePlace_7 ?_
    refine r_iconst X (v := 4) dX3_freePlace_8 (by decide) ?_
    refine r_iadd X dX3_freePlace_9 ?_
    refine r_icmp_ge X (tgt := 30) dX3_freePlace_10 (by decide) (fun _ => ?_) (fun _ => ?_)
    · refine r_iconst X (v := (-1)) dX3_freePlace_30 (by decide) ?_
      exact r_ireturn X dX3_freePlace_31
    · refine r_aload_n X (j := 0) dX3_freePlace_13 rfl rfl ?_
      refine r_get X (ci := 3) (q0 := 0) (v := .ref (α 3)) inX3 rfl rfl 2 (by decide) rfl fl_X3_17 dX3_freePlace_14 ?_
      refine r_iload_n X (j := 2) dX3_freePlace_17 rfl rfl ?_
      refine r_zald X (q0 := 3) (t0 := 1) (kk := 3) rfl rfl dX3_freePlace_18 ?_
      refine r_if_ne X (tgt := 24) dX3_freePlace_19 (by decide) (fun _ => ?_) (fun _ => ?_)
      · refine r_iload_n X (j := 2) dX3_freePlace_22 rfl rfl ?_
        exact r_ireturn X dX3_freePlace_23
      · refine r_iinc X (j := 2) (v := (x2 + 1)) (lv' := [(2, .int (x2 + 1)), (0, .ref (α 0)), (1, .int x1)]) dX3_freePlace_24 rfl rfl (by decide) rfl ?_
        refine r_goto X (tgt := 4) dX3_freePlace_27 (by decide) ?_
        refine r_sub (lv' := [(0, .ref (α 0)), (1, .int x1), (2, .int (x2 + 1))]) [1, 2, 0] rfl ?_
        exact ih x1 (x2 + 1) σ
set_option maxRecDepth 100000 in
set_option maxHeartbeats 4000000 in
theorem c_X3_freePlace (l : Launch) (D : va_G) (cI cZ : ClassId) (α : Nat → Nat) (A : Nat → Prop) (hJ : ∀ σ, va_D A ((kwM cI cZ α) σ)) (x1 : Int32) (σ : KS) : Ct l D (tyA cI cZ) (kwM cI cZ α) A yX3_freePlace cX3_freePlace 3 (some .int) 0 vI [.ref (α 0), .int x1] σ (m_X3_freePlace x1 σ) := by
  refine Ct.of (own := RX3) hJ (by decide) rfl (Nat.le_of_ble_eq_true rfl) ?_
  intro p e s m args below meth c X
  refine r_sub (lv' := [(0, .ref (α 0)), (1, .int x1)]) [0, 1] rfl ?_
  unfold m_X3_freePlace
  refine r_iconst X (v := 4) dX3_freePlace_0 (by decide) ?_
  refine r_iload_n X (j := 1) dX3_freePlace_1 rfl rfl ?_
  refine r_imul X dX3_freePlace_2 ?_
  refine r_istore_n X (lv' := [(2, .int (4 * x1)), (0, .ref (α 0)), (1, .int x1)]) dX3_freePlace_3 rfl (by decide) rfl ?_
  refine r_sub (lv' := [(0, .ref (α 0)), (1, .int x1), (2, .int (4 * x1))]) [1, 2, 0] rfl ?_
  exact cl_X3_freePlace_4 l D cI cZ α A hJ X FU x1 (4 * x1) σ
set_option maxRecDepth 100000 in
set_option maxHeartbeats 4000000 in
theorem cl_X3_giveBlock_32 (l : Launch) (D : va_G) (cI cZ : ClassId) (α : Nat → Nat) (A : Nat → Prop) (hJ : ∀ σ, va_D A ((kwM cI cZ α) σ)) {p : Program} {e : Env} {s : State} {m : MethodId} {args : Array Value} {below : List Frame} {meth : Method} {c : Code} (X : CX p s m args meth c cX3_giveBlock 6 RX3 D (tyA cI cZ) (kwM cI cZ α) A none) : ∀ (n : Nat) (x1 : Int32) (x2 : Int32) (x3 : Int32) (x4 : Int32) (x5 : Int32) (σ : KS), Cr p l e (rmd 0) s m args below meth c 6 D (kwM cI cZ α) A vV 32 [(0, .ref (α 0)), (1, .int x1), (2, .int x2), (3, .int x3), (4, .int x4), (5, .int x5)] [] σ (f_X3_giveBlock_32 n x1 x2 x3 x4 x5 σ) := by
  intro n
  induction n with
  | zero => intros; exact r_none
  | succ n ih =>
    intro x1 x2 x3 x4 x5 σ
    rw [f_X3_giveBlock_32]
    refine r_iload X (j := 4) dX3_giveBlock_32 rfl ?_
    refine r_bipush X (v := 7) dX3_giveBlock_34 (by decide) ?_
    refine r_icmp_ge X (tgt := 94) dX3_giveBlock_36 (by decide) (fun _ => ?_) (fun _ => ?_)
    · refine r_aload_n X (j := 0) dX3_giveBlock_94 rfl rfl ?_
      refine r_get X (ci := 3) (q0 := 0) (v := .ref (α 1)) inX3 rfl rfl 0 (by decide) rfl fl_X3_7 dX3_giveBlock_95 ?_
      refine r_sipush X (v := 128) dX3_giveBlock_98 (by decide) ?_
      refine r_iload X (j := 4) dX3_giveBlock_101 rfl ?_
      refine r_imul X dX3_giveBlock_103 ?_
      refine r_iload_n X (j := 3) dX3_giveBlock_104 rfl rfl ?_
      refine r_iadd X dX3_giveBlock_105 ?_
      refine r_iconst X (v := 1) dX3_giveBlock_106 (by decide) ?_
      refine r_zast X (q0 := 1) (t0 := 1) (kk := 1) rfl (fun _ => rfl) rfl dX3_giveBlock_107 ?_
      exact r_return X dX3_giveBlock_108
    · refine r_aload_n X (j := 0) dX3_giveBlock_39 rfl rfl ?_
      refine r_get X (ci := 3) (q0 := 0) (v := .ref (α 1)) inX3 rfl rfl 0 (by decide) rfl fl_X3_7 dX3_giveBlock_40 ?_
      refine r_sipush X (v := 128) dX3_giveBlock_43 (by decide) ?_
      refine r_iload X (j := 4) dX3_giveBlock_46 rfl ?_
      refine r_imul X dX3_giveBlock_48 ?_
      refine r_iload_n X (j := 3) dX3_giveBlock_49 rfl rfl ?_
      refine r_iconst X (v := 1) dX3_giveBlock_50 (by decide) ?_
      refine r_iload X (j := 4) dX3_giveBlock_51 rfl ?_
      refine r_ishl X dX3_giveBlock_53 ?_
      refine r_ixor X dX3_giveBlock_54 ?_
      refine r_iadd X dX3_giveBlock_55 ?_
      refine r_zald X (q0 := 1) (t0 := 1) (kk := 1) rfl rfl dX3_giveBlock_56 ?_
      refine r_if_eq X (tgt := 94) dX3_giveBlock_57 (by decide) (fun _ => ?_) (fun _ => ?_)
      · refine r_aload_n X (j := 0) dX3_giveBlock_94 rfl rfl ?_
        refine r_get X (ci := 3) (q0 := 0) (v := .ref (α 1)) inX3 rfl rfl 0 (by decide) rfl fl_X3_7 dX3_giveBlock_95 ?_
        refine r_sipush X (v := 128) dX3_giveBlock_98 (by decide) ?_
        refine r_iload X (j := 4) dX3_giveBlock_101 rfl ?_
        refine r_imul X dX3_giveBlock_103 ?_
        refine r_iload_n X (j := 3) dX3_giveBlock_104 rfl rfl ?_
        refine r_iadd X dX3_giveBlock_105 ?_
        refine r_iconst X (v := 1) dX3_giveBlock_106 (by decide) ?_
        refine r_zast X (q0 := 1) (t0 := 1) (kk := 1) rfl (fun _ => rfl) rfl dX3_giveBlock_107 ?_
        exact r_return X dX3_giveBlock_108
      · refine r_aload_n X (j := 0) dX3_giveBlock_60 rfl rfl ?_
        refine r_get X (ci := 3) (q0 := 0) (v := .ref (α 1)) inX3 rfl rfl 0 (by decide) rfl fl_X3_7 dX3_giveBlock_61 ?_
        refine r_sipush X (v := 128) dX3_giveBlock_64 (by decide) ?_
        refine r_iload X (j := 4) dX3_giveBlock_67 rfl ?_
        refine r_imul X dX3_giveBlock_69 ?_
        refine r_iload_n X (j := 3) dX3_giveBlock_70 rfl rfl ?_
        refine r_iconst X (v := 1) dX3_giveBlock_71 (by decide) ?_
        refine r_iload X (j := 4) dX3_giveBlock_72 rfl ?_
        refine r_ishl X dX3_giveBlock_74 ?_
        refine r_ixor X dX3_giveBlock_75 ?_
        refine r_iadd X dX3_giveBlock_76 ?_
        refine r_iconst X (v := 0) dX3_giveBlock_77 (by decide) ?_
        refine r_zast X (q0 := 1) (t0 := 1) (kk := 1) rfl (fun _ => rfl) rfl dX3_giveBlock_78 ?_
        refine r_iload_n X (j := 3) dX3_giveBlock_79 rfl rfl ?_
        refine r_iconst X (v := 1) dX3_giveBlock_80 (by decide) ?_
        refine r_iload X (j := 4) dX3_giveBlock_81 rfl ?_
        refine r_ishl X dX3_giveBlock_83 ?_
        refine r_iconst X (v := (-1)) dX3_giveBlock_84 (by decide) ?_
        refine r_ixor X dX3_giveBlock_85 ?_
        refine r_iand X dX3_giveBlock_86 ?_
        refine r_istore_n X (lv' := [(3, .int (x3 &&& (((1 : Int32) <<< (x4 &&& 31)) ^^^ (-1)))), (0, .ref (α 0)), (1, .int x1), (2, .int x2), (4, .int x4), (5, .int x5)]) dX3_giveBlock_87 rfl (by decide) rfl ?_
        refine r_iinc X (j := 4) (v := (x4 + 1)) (lv' := [(4, .int (x4 + 1)), (3, .int (x3 &&& (((1 : Int32) <<< (x4 &&& 31)) ^^^ (-1)))), (0, .ref (α 0)), (1, .int x1), (2, .int x2), (5, .int x5)]) dX3_giveBlock_88 rfl rfl (by decide) rfl ?_
        refine r_goto X (tgt := 32) dX3_giveBlock_91 (by decide) ?_
        refine r_sub (lv' := [(0, .ref (α 0)), (1, .int x1), (2, .int x2), (3, .int (x3 &&& (((1 : Int32) <<< (x4 &&& 31)) ^^^ (-1)))), (4, .int (x4 + 1)), (5, .int x5)]) [2, 3, 4, 1, 0, 5] rfl ?_
        exact ih x1 x2 (x3 &&& (((1 : Int32) <<< (x4 &&& 31)) ^^^ (-1))) (x4 + 1) x5 (wr σ 1 ((128 * x4) + (x3 ^^^ ((1 : Int32) <<< (x4 &&& 31)))) 0)
set_option maxRecDepth 100000 in
set_option maxHeartbeats 4000000 in
theorem cl_X3_giveBlock_8 (l : Launch) (D : va_G) (cI cZ : ClassId) (α : Nat → Nat) (A : Nat → Prop) (hJ : ∀ σ, va_D A ((kwM cI cZ α) σ)) {p : Program} {e : Env} {s : State} {m : MethodId} {args : Array Value} {below : List Frame} {meth : Method} {c : Code} (X : CX p s m args meth c cX3_giveBlock 6 RX3 D (tyA cI cZ) (kwM cI cZ α) A none) : ∀ (n : Nat) (x1 : Int32) (x2 : Int32) (x3 : Int32) (x4 : Int32) (x5 : Int32) (σ : KS), Cr p l e (rmd 0) s m args below meth c 6 D (kwM cI cZ α) A vV 8 [(0, .ref (α 0)), (1, .int x1), (2, .int x2), (3, .int x3), (4, .int x4), (5, .int x5)] [] σ (f_X3_giveBlock_8 n x1 x2 x3 x4 x5 σ) := by
  intro n
  induction n with
  | zero => intros; exact r_none
  | succ n ih =>
    intro x1 x2 x3 x4 x5 σ
    rw [f_X3_giveBlock_8]
    refine r_iload X (j := 5) dX3_giveBlock_8 rfl ?_
    refine r_iload_n X (j := 1) dX3_giveBlock_10 rfl rfl ?_
    refine r_iconst X (v := 1) dX3_giveBlock_11 (by decide) ?_
    refine r_iload_n X (j := 2) dX3_giveBlock_12 rfl rfl ?_
    refine r_ishl X dX3_giveBlock_13 ?_
    refine r_iadd X dX3_giveBlock_14 ?_
    refine r_icmp_ge X (tgt := 32) dX3_giveBlock_15 (by decide) (fun _ => ?_) (fun _ => ?_)
    · refine r_sub (lv' := [(0, .ref (α 0)), (1, .int x1), (2, .int x2), (3, .int x3), (4, .int x4), (5, .int x5)]) [0, 1, 2, 3, 4, 5] rfl ?_
      exact cl_X3_giveBlock_32 l D cI cZ α A hJ X FU x1 x2 x3 x4 x5 σ
    · refine r_aload_n X (j := 0) dX3_giveBlock_18 rfl rfl ?_
      refine r_get X (ci := 3) (q0 := 0) (v := .ref (α 2)) inX3 rfl rfl 1 (by decide) rfl fl_X3_13 dX3_giveBlock_19 ?_
      refine r_iload X (j := 5) dX3_giveBlock_22 rfl ?_
      refine r_iconst X (v := 0) dX3_giveBlock_24 (by decide) ?_
      refine r_iast X (q0 := 2) (t0 := 0) (kk := 2) rfl (fun _ => rfl) rfl dX3_giveBlock_25 ?_
      refine r_iinc X (j := 5) (v := (x5 + 1)) (lv' := [(5, .int (x5 + 1)), (0, .ref (α 0)), (1, .int x1), (2, .int x2), (3, .int x3), (4, .int x4)]) dX3_giveBlock_26 rfl rfl (by decide) rfl ?_
      refine r_goto X (tgt := 8) dX3_giveBlock_29 (by decide) ?_
      refine r_sub (lv' := [(0, .ref (α 0)), (1, .int x1), (2, .int x2), (3, .int x3), (4, .int x4), (5, .int (x5 + 1))]) [1, 2, 3, 4, 5, 0] rfl ?_
      exact ih x1 x2 x3 x4 (x5 + 1) (wr σ 2 x5 0)
set_option maxRecDepth 100000 in
set_option maxHeartbeats 4000000 in
theorem c_X3_giveBlock (l : Launch) (D : va_G) (cI cZ : ClassId) (α : Nat → Nat) (A : Nat → Prop) (hJ : ∀ σ, va_D A ((kwM cI cZ α) σ)) (x1 x2 : Int32) (σ : KS) : Ct l D (tyA cI cZ) (kwM cI cZ α) A yX3_giveBlock cX3_giveBlock 6 none 0 vV [.ref (α 0), .int x1, .int x2] σ (m_X3_giveBlock x1 x2 σ) := by
  refine Ct.of (own := RX3) hJ (by decide) rfl (Nat.le_of_ble_eq_true rfl) ?_
  intro p e s m args below meth c X
  refine r_sub (lv' := [(0, .ref (α 0)), (1, .int x1), (2, .int x2)]) [0, 1, 2] rfl ?_
  unfold m_X3_giveBlock
  refine r_iload_n X (j := 1) dX3_giveBlock_0 rfl rfl ?_
  refine r_istore_n X (lv' := [(3, .int x1), (0, .ref (α 0)), (1, .int x1), (2, .int x2)]) dX3_giveBlock_1 rfl (by decide) rfl ?_
  refine r_iload_n X (j := 3) dX3_giveBlock_2 rfl rfl ?_
  refine r_istore X (lv' := [(4, .int x2), (3, .int x1), (0, .ref (α 0)), (1, .int x1), (2, .int x2)]) dX3_giveBlock_3 (by decide) rfl ?_
  refine r_iload_n X (j := 3) dX3_giveBlock_5 rfl rfl ?_
  refine r_istore X (lv' := [(5, .int x1), (4, .int x2), (3, .int x1), (0, .ref (α 0)), (1, .int x1), (2, .int x2)]) dX3_giveBlock_6 (by decide) rfl ?_
  refine r_sub (lv' := [(0, .ref (α 0)), (1, .int x1), (2, .int x2), (3, .int x1), (4, .int x2), (5, .int x1)]) [3, 4, 5, 2, 1, 0] rfl ?_
  exact cl_X3_giveBlock_8 l D cI cZ α A hJ X FU x1 x2 x1 x2 x1 σ
set_option maxRecDepth 100000 in
set_option maxHeartbeats 4000000 in
theorem c_X3_isLive (l : Launch) (D : va_G) (cI cZ : ClassId) (α : Nat → Nat) (A : Nat → Prop) (hJ : ∀ σ, va_D A ((kwM cI cZ α) σ)) (x1 : Int32) (σ : KS) : Ct l D (tyA cI cZ) (kwM cI cZ α) A yX3_isLive cX3_isLive 2 (some .boolean) 0 vI [.ref (α 0), .int x1] σ (m_X3_isLive x1 σ) := by
  refine Ct.of (own := RX3) hJ (by decide) rfl (Nat.le_of_ble_eq_true rfl) ?_
  intro p e s m args below meth c X
  refine r_sub (lv' := [(0, .ref (α 0)), (1, .int x1)]) [0, 1] rfl ?_
  unfold m_X3_isLive
  refine r_iload_n X (j := 1) dX3_isLive_0 rfl rfl ?_
  refine r_if_lt X (tgt := 24) dX3_isLive_1 (by decide) (fun _ => ?_) (fun _ => ?_)
  · refine r_iconst X (v := 0) dX3_isLive_24 (by decide) ?_
    exact r_zreturn X (by decide) dX3_isLive_25
  · refine r_iload_n X (j := 1) dX3_isLive_4 rfl rfl ?_
    refine r_bipush X (v := 16) dX3_isLive_5 (by decide) ?_
    refine r_icmp_ge X (tgt := 24) dX3_isLive_7 (by decide) (fun _ => ?_) (fun _ => ?_)
    · refine r_iconst X (v := 0) dX3_isLive_24 (by decide) ?_
      exact r_zreturn X (by decide) dX3_isLive_25
    · refine r_aload_n X (j := 0) dX3_isLive_10 rfl rfl ?_
      refine r_get X (ci := 3) (q0 := 0) (v := .ref (α 6)) inX3 rfl rfl 5 (by decide) rfl fl_X3_26 dX3_isLive_11 ?_
      refine r_iload_n X (j := 1) dX3_isLive_14 rfl rfl ?_
      refine r_iald X (q0 := 6) (t0 := 0) (kk := 6) rfl rfl dX3_isLive_15 ?_
      refine r_iconst X (v := 1) dX3_isLive_16 (by decide) ?_
      refine r_icmp_ne X (tgt := 24) dX3_isLive_17 (by decide) (fun _ => ?_) (fun _ => ?_)
      · refine r_iconst X (v := 1) dX3_isLive_20 (by decide) ?_
        refine r_goto X (tgt := 25) dX3_isLive_21 (by decide) ?_
        exact r_zreturn X (by decide) dX3_isLive_25
      · refine r_iconst X (v := 0) dX3_isLive_24 (by decide) ?_
        exact r_zreturn X (by decide) dX3_isLive_25
set_option maxRecDepth 100000 in
set_option maxHeartbeats 4000000 in
theorem cl_X3_layAside_56 (l : Launch) (D : va_G) (cI cZ : ClassId) (α : Nat → Nat) (A : Nat → Prop) (hJ : ∀ σ, va_D A ((kwM cI cZ α) σ)) {p : Program} {e : Env} {s : State} {m : MethodId} {args : Array Value} {below : List Frame} {meth : Method} {c : Code} (X : CX p s m args meth c cX3_layAside 2 RX3 D (tyA cI cZ) (kwM cI cZ α) A none) : ∀ (n : Nat) (x1 : Int32) (σ : KS), Cr p l e (rmd 0) s m args below meth c 2 D (kwM cI cZ α) A vV 56 [(0, .ref (α 0)), (1, .int x1)] [] σ (f_X3_layAside_56 n x1 σ) := by
  intro n
  induction n with
  | zero => intros; exact r_none
  | succ n ih =>
    intro x1 σ
    rw [f_X3_layAside_56]
    refine r_iload_n X (j := 1) dX3_layAside_56 rfl rfl ?_
    refine r_sipush X (v := 512) dX3_layAside_57 (by decide) ?_
    refine r_icmp_ge X (tgt := 81) dX3_layAside_60 (by decide) (fun _ => ?_) (fun _ => ?_)
    · exact r_return X dX3_layAside_81
    · refine r_aload_n X (j := 0) dX3_layAside_63 rfl rfl ?_
      refine r_get X (ci := 3) (q0 := 0) (v := .ref (α 16)) inX3 rfl rfl 19 (by decide) rfl fl_X3_56 dX3_layAside_64 ?_
      refine r_iload_n X (j := 1) dX3_layAside_67 rfl rfl ?_
      refine r_aload_n X (j := 0) dX3_layAside_68 rfl rfl ?_
      refine r_get X (ci := 3) (q0 := 0) (v := .ref (α 3)) inX3 rfl rfl 2 (by decide) rfl fl_X3_17 dX3_layAside_69 ?_
      refine r_iload_n X (j := 1) dX3_layAside_72 rfl rfl ?_
      refine r_zald X (q0 := 3) (t0 := 1) (kk := 3) rfl rfl dX3_layAside_73 ?_
      refine r_zast X (q0 := 16) (t0 := 1) (kk := 16) rfl (fun _ => rfl) rfl dX3_layAside_74 ?_
      refine r_iinc X (j := 1) (v := (x1 + 1)) (lv' := [(1, .int (x1 + 1)), (0, .ref (α 0))]) dX3_layAside_75 rfl rfl (by decide) rfl ?_
      refine r_goto X (tgt := 56) dX3_layAside_78 (by decide) ?_
      refine r_sub (lv' := [(0, .ref (α 0)), (1, .int (x1 + 1))]) [1, 0] rfl ?_
      exact ih (x1 + 1) (wr σ 16 x1 (rd σ 3 x1))
set_option maxRecDepth 100000 in
set_option maxHeartbeats 4000000 in
theorem cl_X3_layAside_29 (l : Launch) (D : va_G) (cI cZ : ClassId) (α : Nat → Nat) (A : Nat → Prop) (hJ : ∀ σ, va_D A ((kwM cI cZ α) σ)) {p : Program} {e : Env} {s : State} {m : MethodId} {args : Array Value} {below : List Frame} {meth : Method} {c : Code} (X : CX p s m args meth c cX3_layAside 2 RX3 D (tyA cI cZ) (kwM cI cZ α) A none) : ∀ (n : Nat) (x1 : Int32) (σ : KS), Cr p l e (rmd 0) s m args below meth c 2 D (kwM cI cZ α) A vV 29 [(0, .ref (α 0)), (1, .int x1)] [] σ (f_X3_layAside_29 n x1 σ) := by
  intro n
  induction n with
  | zero => intros; exact r_none
  | succ n ih =>
    intro x1 σ
    rw [f_X3_layAside_29]
    refine r_iload_n X (j := 1) dX3_layAside_29 rfl rfl ?_
    refine r_sipush X (v := 128) dX3_layAside_30 (by decide) ?_
    refine r_icmp_ge X (tgt := 54) dX3_layAside_33 (by decide) (fun _ => ?_) (fun _ => ?_)
    · refine r_iconst X (v := 0) dX3_layAside_54 (by decide) ?_
      refine r_istore_n X (lv' := [(1, .int 0), (0, .ref (α 0))]) dX3_layAside_55 rfl (by decide) rfl ?_
      refine r_sub (lv' := [(0, .ref (α 0)), (1, .int 0)]) [1, 0] rfl ?_
      exact cl_X3_layAside_56 l D cI cZ α A hJ X FU 0 σ
    · refine r_aload_n X (j := 0) dX3_layAside_36 rfl rfl ?_
      refine r_get X (ci := 3) (q0 := 0) (v := .ref (α 15)) inX3 rfl rfl 18 (by decide) rfl fl_X3_53 dX3_layAside_37 ?_
      refine r_iload_n X (j := 1) dX3_layAside_40 rfl rfl ?_
      refine r_aload_n X (j := 0) dX3_layAside_41 rfl rfl ?_
      refine r_get X (ci := 3) (q0 := 0) (v := .ref (α 2)) inX3 rfl rfl 1 (by decide) rfl fl_X3_13 dX3_layAside_42 ?_
      refine r_iload_n X (j := 1) dX3_layAside_45 rfl rfl ?_
      refine r_iald X (q0 := 2) (t0 := 0) (kk := 2) rfl rfl dX3_layAside_46 ?_
      refine r_iast X (q0 := 15) (t0 := 0) (kk := 15) rfl (fun _ => rfl) rfl dX3_layAside_47 ?_
      refine r_iinc X (j := 1) (v := (x1 + 1)) (lv' := [(1, .int (x1 + 1)), (0, .ref (α 0))]) dX3_layAside_48 rfl rfl (by decide) rfl ?_
      refine r_goto X (tgt := 29) dX3_layAside_51 (by decide) ?_
      refine r_sub (lv' := [(0, .ref (α 0)), (1, .int (x1 + 1))]) [1, 0] rfl ?_
      exact ih (x1 + 1) (wr σ 15 x1 (rd σ 2 x1))
set_option maxRecDepth 100000 in
set_option maxHeartbeats 4000000 in
theorem cl_X3_layAside_2 (l : Launch) (D : va_G) (cI cZ : ClassId) (α : Nat → Nat) (A : Nat → Prop) (hJ : ∀ σ, va_D A ((kwM cI cZ α) σ)) {p : Program} {e : Env} {s : State} {m : MethodId} {args : Array Value} {below : List Frame} {meth : Method} {c : Code} (X : CX p s m args meth c cX3_layAside 2 RX3 D (tyA cI cZ) (kwM cI cZ α) A none) : ∀ (n : Nat) (x1 : Int32) (σ : KS), Cr p l e (rmd 0) s m args below meth c 2 D (kwM cI cZ α) A vV 2 [(0, .ref (α 0)), (1, .int x1)] [] σ (f_X3_layAside_2 n x1 σ) := by
  intro n
  induction n with
  | zero => intros; exact r_none
  | succ n ih =>
    intro x1 σ
    rw [f_X3_layAside_2]
    refine r_iload_n X (j := 1) dX3_layAside_2 rfl rfl ?_
    refine r_sipush X (v := 1024) dX3_layAside_3 (by decide) ?_
    refine r_icmp_ge X (tgt := 27) dX3_layAside_6 (by decide) (fun _ => ?_) (fun _ => ?_)
    · refine r_iconst X (v := 0) dX3_layAside_27 (by decide) ?_
      refine r_istore_n X (lv' := [(1, .int 0), (0, .ref (α 0))]) dX3_layAside_28 rfl (by decide) rfl ?_
      refine r_sub (lv' := [(0, .ref (α 0)), (1, .int 0)]) [1, 0] rfl ?_
      exact cl_X3_layAside_29 l D cI cZ α A hJ X FU 0 σ
    · refine r_aload_n X (j := 0) dX3_layAside_9 rfl rfl ?_
      refine r_get X (ci := 3) (q0 := 0) (v := .ref (α 14)) inX3 rfl rfl 17 (by decide) rfl fl_X3_50 dX3_layAside_10 ?_
      refine r_iload_n X (j := 1) dX3_layAside_13 rfl rfl ?_
      refine r_aload_n X (j := 0) dX3_layAside_14 rfl rfl ?_
      refine r_get X (ci := 3) (q0 := 0) (v := .ref (α 1)) inX3 rfl rfl 0 (by decide) rfl fl_X3_7 dX3_layAside_15 ?_
      refine r_iload_n X (j := 1) dX3_layAside_18 rfl rfl ?_
      refine r_zald X (q0 := 1) (t0 := 1) (kk := 1) rfl rfl dX3_layAside_19 ?_
      refine r_zast X (q0 := 14) (t0 := 1) (kk := 14) rfl (fun _ => rfl) rfl dX3_layAside_20 ?_
      refine r_iinc X (j := 1) (v := (x1 + 1)) (lv' := [(1, .int (x1 + 1)), (0, .ref (α 0))]) dX3_layAside_21 rfl rfl (by decide) rfl ?_
      refine r_goto X (tgt := 2) dX3_layAside_24 (by decide) ?_
      refine r_sub (lv' := [(0, .ref (α 0)), (1, .int (x1 + 1))]) [1, 0] rfl ?_
      exact ih (x1 + 1) (wr σ 14 x1 (rd σ 1 x1))
set_option maxRecDepth 100000 in
set_option maxHeartbeats 4000000 in
theorem c_X3_layAside (l : Launch) (D : va_G) (cI cZ : ClassId) (α : Nat → Nat) (A : Nat → Prop) (hJ : ∀ σ, va_D A ((kwM cI cZ α) σ)) (σ : KS) : Ct l D (tyA cI cZ) (kwM cI cZ α) A yX3_layAside cX3_layAside 2 none 0 vV [.ref (α 0)] σ (m_X3_layAside σ) := by
  refine Ct.of (own := RX3) hJ (by decide) rfl (Nat.le_of_ble_eq_true rfl) ?_
  intro p e s m args below meth c X
  refine r_sub (lv' := [(0, .ref (α 0))]) [0] rfl ?_
  unfold m_X3_layAside
  refine r_iconst X (v := 0) dX3_layAside_0 (by decide) ?_
  refine r_istore_n X (lv' := [(1, .int 0), (0, .ref (α 0))]) dX3_layAside_1 rfl (by decide) rfl ?_
  refine r_sub (lv' := [(0, .ref (α 0)), (1, .int 0)]) [1, 0] rfl ?_
  exact cl_X3_layAside_2 l D cI cZ α A hJ X FU 0 σ
set_option maxRecDepth 100000 in
set_option maxHeartbeats 4000000 in
theorem cl_X3_placeInRow_2 (l : Launch) (D : va_G) (cI cZ : ClassId) (α : Nat → Nat) (A : Nat → Prop) (hJ : ∀ σ, va_D A ((kwM cI cZ α) σ)) {p : Program} {e : Env} {s : State} {m : MethodId} {args : Array Value} {below : List Frame} {meth : Method} {c : Code} (X : CX p s m args meth c cX3_placeInRow 3 RX3 D (tyA cI cZ) (kwM cI cZ α) A (some .int)) : ∀ (n : Nat) (x1 : Int32) (x2 : Int32) (σ : KS), Cr p l e (rmd 0) s m args below meth c 3 D (kwM cI cZ α) A vI 2 [(0, .ref (α 0)), (1, .int x1), (2, .int x2)] [] σ (f_X3_placeInRow_2 n x1 x2 σ) := by
  intro n
  induction n with
  | zero => intros; exact r_none
  | succ n ih =>
    intro x1 x2 σ
    rw [f_X3_placeInRow_2]
    refine r_iload_n X (j := 2) dX3_placeInRow_2 rfl rfl ?_
    refine r_aload_n X (j := 0) dX3_placeInRow_3 rfl rfl ?_
    refine r_get X (ci := 3) (q0 := 0) (v := .int (gv σ 0)) inX3 rfl rfl 13 (by decide) rfl fl_X3_80 dX3_placeInRow_4 ?_
    refine r_icmp_ge X (tgt := 28) dX3_placeInRow_7 (by decide) (fun _ => ?_) (fun _ => ?_)
    · refine r_iconst X (v := (-1)) dX3_placeInRow_28 (by decide) ?_
      exact r_ireturn X dX3_placeInRow_29
    · refine r_aload_n X (j := 0) dX3_placeInRow_10 rfl rfl ?_
      refine r_get X (ci := 3) (q0 := 0) (v := .ref (α 13)) inX3 rfl rfl 12 (by decide) rfl fl_X3_47 dX3_placeInRow_11 ?_
      refine r_iload_n X (j := 2) dX3_placeInRow_14 rfl rfl ?_
      refine r_iald X (q0 := 13) (t0 := 0) (kk := 13) rfl rfl dX3_placeInRow_15 ?_
      refine r_iload_n X (j := 1) dX3_placeInRow_16 rfl rfl ?_
      refine r_icmp_ne X (tgt := 22) dX3_placeInRow_17 (by decide) (fun _ => ?_) (fun _ => ?_)
      · refine r_iload_n X (j := 2) dX3_placeInRow_20 rfl rfl ?_
        exact r_ireturn X dX3_placeInRow_21
      · refine r_iinc X (j := 2) (v := (x2 + 1)) (lv' := [(2, .int (x2 + 1)), (0, .ref (α 0)), (1, .int x1)]) dX3_placeInRow_22 rfl rfl (by decide) rfl ?_
        refine r_goto X (tgt := 2) dX3_placeInRow_25 (by decide) ?_
        refine r_sub (lv' := [(0, .ref (α 0)), (1, .int x1), (2, .int (x2 + 1))]) [1, 2, 0] rfl ?_
        exact ih x1 (x2 + 1) σ
set_option maxRecDepth 100000 in
set_option maxHeartbeats 4000000 in
theorem c_X3_placeInRow (l : Launch) (D : va_G) (cI cZ : ClassId) (α : Nat → Nat) (A : Nat → Prop) (hJ : ∀ σ, va_D A ((kwM cI cZ α) σ)) (x1 : Int32) (σ : KS) : Ct l D (tyA cI cZ) (kwM cI cZ α) A yX3_placeInRow cX3_placeInRow 3 (some .int) 0 vI [.ref (α 0), .int x1] σ (m_X3_placeInRow x1 σ) := by
  refine Ct.of (own := RX3) hJ (by decide) rfl (Nat.le_of_ble_eq_true rfl) ?_
  intro p e s m args below meth c X
  refine r_sub (lv' := [(0, .ref (α 0)), (1, .int x1)]) [0, 1] rfl ?_
  unfold m_X3_placeInRow
  refine r_iconst X (v := 0) dX3_placeInRow_0 (by decide) ?_
  refine r_istore_n X (lv' := [(2, .int 0), (0, .ref (α 0)), (1, .int x1)]) dX3_placeInRow_1 rfl (by decide) rfl ?_
  refine r_sub (lv' := [(0, .ref (α 0)), (1, .int x1), (2, .int 0)]) [1, 2, 0] rfl ?_
  exact cl_X3_placeInRow_2 l D cI cZ α A hJ X FU x1 0 σ
set_option maxRecDepth 100000 in
set_option maxHeartbeats 4000000 in
theorem cl_X3_smallIn_6 (l : Launch) (D : va_G) (cI cZ : ClassId) (α : Nat → Nat) (A : Nat → Prop) (hJ : ∀ σ, va_D A ((kwM cI cZ α) σ)) {p : Program} {e : Env} {s : State} {m : MethodId} {args : Array Value} {below : List Frame} {meth : Method} {c : Code} (X : CX p s m args meth c cX3_smallIn 4 RX3 D (tyA cI cZ) (kwM cI cZ α) A (some .int)) : ∀ (n : Nat) (x1 : Int32) (x2 : Int32) (x3 : Int32) (σ : KS), Cr p l e (rmd 0) s m args below meth c 4 D (kwM cI cZ α) A vI 6 [(0, .ref (α 0)), (1, .int x1), (2, .int x2), (3, .int x3)] [] σ (f_X3_smallIn_6 n x1 x2 x3 σ) := by
  intro n
  induction n with
  | zero => intros; exact r_none
  | succ n ih =>
    intro x1 x2 x3 σ
    rw [f_X3_smallIn_6]
    refine r_iload_n X (j := 3) dX3_smallIn_6 rfl rfl ?_
    refine r_iconst X (v := 4) dX3_smallIn_7 (by decide) ?_
    refine r_iload_n X (j := 1) dX3_smallIn_8 rfl rfl ?_
    refine r_imul X dX3_smallIn_9 ?_
    refine r_iconst X (v := 4) dX3_smallIn_10 (by decide) ?_
    refine r_iadd X dX3_smallIn_11 ?_
    refine r_icmp_ge X (tgt := 38) dX3_smallIn_12 (by decide) (fun _ => ?_) (fun _ => ?_)
    · refine r_iload_n X (j := 2) dX3_smallIn_38 rfl rfl ?_
      exact r_ireturn X dX3_smallIn_39
    · refine r_iload_n X (j := 2) dX3_smallIn_15 rfl rfl ?_
      refine r_aload_n X (j := 0) dX3_smallIn_16 rfl rfl ?_
      refine r_get X (ci := 3) (q0 := 0) (v := .ref (α 3)) inX3 rfl rfl 2 (by decide) rfl fl_X3_17 dX3_smallIn_17 ?_
      refine r_iload_n X (j := 3) dX3_smallIn_20 rfl rfl ?_
      refine r_zald X (q0 := 3) (t0 := 1) (kk := 3) rfl rfl dX3_smallIn_21 ?_
      refine r_if_eq X (tgt := 29) dX3_smallIn_22 (by decide) (fun _ => ?_) (fun _ => ?_)
      · refine r_iconst X (v := 0) dX3_smallIn_29 (by decide) ?_
        refine r_iadd X dX3_smallIn_30 ?_
        refine r_istore_n X (lv' := [(2, .int (x2 + 0)), (0, .ref (α 0)), (1, .int x1), (3, .int x3)]) dX3_smallIn_31 rfl (by decide) rfl ?_
        refine r_iinc X (j := 3) (v := (x3 + 1)) (lv' := [(3, .int (x3 + 1)), (2, .int (x2 + 0)), (0, .ref (α 0)), (1, .int x1)]) dX3_smallIn_32 rfl rfl (by decide) rfl ?_
        refine r_goto X (tgt := 6) dX3_smallIn_35 (by decide) ?_
        refine r_sub (lv' := [(0, .ref (α 0)), (1, .int x1), (2, .int (x2 + 0)), (3, .int (x3 + 1))]) [2, 3, 1, 0] rfl ?_
        exact ih x1 (x2 + 0) (x3 + 1) σ
      · refine r_iconst X (v := 1) dX3_smallIn_25 (by decide) ?_
        refine r_goto X (tgt := 30) dX3_smallIn_26 (by decide) ?_
        refine r_iadd X dX3_smallIn_30 ?_
        refine r_istore_n X (lv' := [(2, .int (x2 + 1)), (0, .ref (α 0)), (1, .int x1), (3, .int x3)]) dX3_smallIn_31 rfl (by decide) rfl ?_
        refine r_iinc X (j := 3) (v := (x3 + 1)) (lv' := [(3, .int (x3 + 1)), (2, .int (x2 + 1)), (0, .ref (α 0)), (1, .int x1)]) dX3_smallIn_32 rfl rfl (by decide) rfl ?_
        refine r_goto X (tgt := 6) dX3_smallIn_35 (by decide) ?_
        refine r_sub (lv' := [(0, .ref (α 0)), (1, .int x1), (2, .int (x2 + 1)), (3, .int (x3 + 1))]) [2, 3, 1, 0] rfl ?_
        exact ih x1 (x2 + 1) (x3 + 1) σ
set_option maxRecDepth 100000 in
set_option maxHeartbeats 4000000 in
theorem c_X3_smallIn (l : Launch) (D : va_G) (cI cZ : ClassId) (α : Nat → Nat) (A : Nat → Prop) (hJ : ∀ σ, va_D A ((kwM cI cZ α) σ)) (x1 : Int32) (σ : KS) : Ct l D (tyA cI cZ) (kwM cI cZ α) A yX3_smallIn cX3_smallIn 4 (some .int) 0 vI [.ref (α 0), .int x1] σ (m_X3_smallIn x1 σ) := by
  refine Ct.of (own := RX3) hJ (by decide) rfl (Nat.le_of_ble_eq_true rfl) ?_
  intro p e s m args below meth c X
  refine r_sub (lv' := [(0, .ref (α 0)), (1, .int x1)]) [0, 1] rfl ?_
  unfold m_X3_smallIn
  refine r_iconst X (v := 0) dX3_smallIn_0 (by decide) ?_
  refine r_istore_n X (lv' := [(2, .int 0), (0, .ref (α 0)), (1, .int x1)]) dX3_smallIn_1 rfl (by decide) rfl ?_
  refine r_iconst X (v := 4) dX3_smallIn_2 (by decide) ?_
  refine r_iload_n X (j := 2) dX3_smallIn_3 rfl rfl ?_
  refine r_imul X dX3_smallIn_4 ?_
  refine r_istore_n X (lv' := [(3, .int (4 * x1)), (2, .int 0), (0, .ref (α 0)), (1, .int x1)]) dX3_smallIn_5 rfl (by decide) rfl ?_
  refine r_sub (lv' := [(0, .ref (α 0)), (1, .int x1), (2, .int 0), (3, .int (4 * x1))]) [2, 3, 1, 0] rfl ?_
  exact cl_X3_smallIn_6 l D cI cZ α A hJ X FU x1 0 (4 * x1) σ
