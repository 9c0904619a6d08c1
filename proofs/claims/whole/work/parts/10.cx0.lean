set_option maxRecDepth 100000 in
set_option maxHeartbeats 4000000 in
theorem c_J6_bitCount_0f7a4 (l : Launch) (D : va_G) (cI cZ : ClassId) (α : Nat → Nat) (A : Nat → Prop) (hJ : ∀ σ, va_D A ((kwX cI α) σ)) (x0 : Int32) (σ : KS) : Ct l D (tyA cI cZ) (kwX cI α) A yJ6_bitCount_0f7a4 cJ6_bitCount_0f7a4 1 (some .int) 0 vI [.int x0] σ (m_J6_bitCount_0f7a4 x0 σ) := by
  refine Ct.of (own := RJ6) hJ (by decide) rfl (Nat.le_of_ble_eq_true rfl) ?_
  intro p e s m args below meth c X
  refine r_sub (lv' := [(0, .int x0)]) [0] rfl ?_
  unfold m_J6_bitCount_0f7a4
  refine r_iload_n X (j := 0) dJ6_bitCount_0f7a4_0 rfl rfl ?_
  refine r_iload_n X (j := 0) dJ6_bitCount_0f7a4_1 rfl rfl ?_
  refine r_iconst X (v := 1) dJ6_bitCount_0f7a4_2 (by decide) ?_
  refine r_iushr X dJ6_bitCount_0f7a4_3 ?_
  refine r_ldcw X kc_265 dJ6_bitCount_0f7a4_4 ?_
  refine r_iand X dJ6_bitCount_0f7a4_7 ?_
  refine r_isub X dJ6_bitCount_0f7a4_8 ?_
  refine r_istore_n X (lv' := [(0, .int (x0 - (((x0.toUInt32 >>> ((1 : Int32).toUInt32 &&& Int32.toUInt32 31)).toInt32) &&& 1431655765)))]) dJ6_bitCount_0f7a4_9 rfl (by decide) rfl ?_
  refine r_iload_n X (j := 0) dJ6_bitCount_0f7a4_10 rfl rfl ?_
  refine r_ldcw X kc_266 dJ6_bitCount_0f7a4_11 ?_
  refine r_iand X dJ6_bitCount_0f7a4_14 ?_
  refine r_iload_n X (j := 0) dJ6_bitCount_0f7a4_15 rfl rfl ?_
  refine r_iconst X (v := 2) dJ6_bitCount_0f7a4_16 (by decide) ?_
  refine r_iushr X dJ6_bitCount_0f7a4_17 ?_
  refine r_ldcw X kc_266 dJ6_bitCount_0f7a4_18 ?_
  refine r_iand X dJ6_bitCount_0f7a4_21 ?_
  refine r_iadd X dJ6_bitCount_0f7a4_22 ?_
  refine r_istore_n X (lv' := [(0, .int (((x0 - (((x0.toUInt32 >>> ((1 : Int32).toUInt32 &&& Int32.toUInt32 31)).toInt32) &&& 1431655765)) &&& 858993459) + ((((x0 - (((x0.toUInt32 >>> ((1 : Int32).toUInt32 &&& Int32.toUInt32 31)).toInt32) &&& 1431655765)).toUInt32 >>> ((2 : Int32).toUInt32 &&& Int32.toUInt32 31)).toInt32) &&& 858993459)))]) dJ6_bitCount_0f7a4_23 rfl (by decide) rfl ?_
  refine r_iload_n X (j := 0) dJ6_bitCount_0f7a4_24 rfl rfl ?_
  refine r_iload_n X (j := 0) dJ6_bitCount_0f7a4_25 rfl rfl ?_
  refine r_iconst X (v := 4) dJ6_bitCount_0f7a4_26 (by decide) ?_
  refine r_iushr X dJ6_bitCount_0f7a4_27 ?_
  refine r_iadd X dJ6_bitCount_0f7a4_28 ?_
  refine r_ldcw X kc_267 dJ6_bitCount_0f7a4_29 ?_
  refine r_iand X dJ6_bitCount_0f7a4_32 ?_
  refine r_istore_n X (lv' := [(0, .int (((((x0 - (((x0.toUInt32 >>> ((1 : Int32).toUInt32 &&& Int32.toUInt32 31)).toInt32) &&& 1431655765)) &&& 858993459) + ((((x0 - (((x0.toUInt32 >>> ((1 : Int32).toUInt32 &&& Int32.toUInt32 31)).toInt32) &&& 1431655765)).toUInt32 >>> ((2 : Int32).toUInt32 &&& Int32.toUInt32 31)).toInt32) &&& 858993459)) + (((((x0 - (((x0.toUInt32 >>> ((1 : Int32).toUInt32 &&& Int32.toUInt32 31)).toInt32) &&& 1431655765)) &&& 858993459) + ((((x0 - (((x0.toUInt32 >>> ((1 : Int32).toUInt32 &&& Int32.toUInt32 31)).toInt32) &&& 1431655765)).toUInt32 >>> ((2 : Int32).toUInt32 &&& Int32.toUInt32 31)).toInt32) &&& 858993459)).toUInt32 >>> ((4 : Int32).toUInt32 &&& Int32.toUInt32 31)).toInt32)) &&& 252645135))]) dJ6_bitCount_0f7a4_33 rfl (by decide) rfl ?_
  refine r_iload_n X (j := 0) dJ6_bitCount_0f7a4_34 rfl rfl ?_
  refine r_iload_n X (j := 0) dJ6_bitCount_0f7a4_35 rfl rfl ?_
  refine r_bipush X (v := 8) dJ6_bitCount_0f7a4_36 (by decide) ?_
  refine r_iushr X dJ6_bitCount_0f7a4_38 ?_
  refine r_iadd X dJ6_bitCount_0f7a4_39 ?_
  refine r_istore_n X (lv' := [(0, .int ((((((x0 - (((x0.toUInt32 >>> ((1 : Int32).toUInt32 &&& Int32.toUInt32 31)).toInt32) &&& 1431655765)) &&& 858993459) + ((((x0 - (((x0.toUInt32 >>> ((1 : Int32).toUInt32 &&& Int32.toUInt32 31)).toInt32) &&& 1431655765)).toUInt32 >>> ((2 : Int32).toUInt32 &&& Int32.toUInt32 31)).toInt32) &&& 858993459)) + (((((x0 - (((x0.toUInt32 >>> ((1 : Int32).toUInt32 &&& Int32.toUInt32 31)).toInt32) &&& 1431655765)) &&& 858993459) + ((((x0 - (((x0.toUInt32 >>> ((1 : Int32).toUInt32 &&& Int32.toUInt32 31)).toInt32) &&& 1431655765)).toUInt32 >>> ((2 : Int32).toUInt32 &&& Int32.toUInt32 31)).toInt32) &&& 858993459)).toUInt32 >>> ((4 : Int32).toUInt32 &&& Int32.toUInt32 31)).toInt32)) &&& 252645135) + (((((((x0 - (((x0.toUInt32 >>> ((1 : Int32).toUInt32 &&& Int32.toUInt32 31)).toInt32) &&& 1431655765)) &&& 858993459) + ((((x0 - (((x0.toUInt32 >>> ((1 : Int32).toUInt32 &&& Int32.toUInt32 31)).toInt32) &&& 1431655765)).toUInt32 >>> ((2 : Int32).toUInt32 &&& Int32.toUInt32 31)).toInt32) &&& 858993459)) + (((((x0 - (((x0.toUInt32 >>> ((1 : Int32).toUInt32 &&& Int32.toUInt32 31)).toInt32) &&& 1431655765)) &&& 858993459) + ((((x0 - (((x0.toUInt32 >>> ((1 : Int32).toUInt32 &&& Int32.toUInt32 31)).toInt32) &&& 1431655765)).toUInt32 >>> ((2 : Int32).toUInt32 &&& Int32.toUInt32 31)).toInt32) &&& 858993459)).toUInt32 >>> ((4 : Int32).toUInt32 &&& Int32.toUInt32 31)).toInt32)) &&& 252645135).toUInt32 >>> ((8 : Int32).toUInt32 &&& Int32.toUInt32 31)).toInt32)))]) dJ6_bitCount_0f7a4_40 rfl (by decide) rfl ?_
  refine r_iload_n X (j := 0) dJ6_bitCount_0f7a4_41 rfl rfl ?_
  refine r_iload_n X (j := 0) dJ6_bitCount_0f7a4_42 rfl rfl ?_
  refine r_bipush X (v := 16) dJ6_bitCount_0f7a4_43 (by decide) ?_
  refine r_iushr X dJ6_bitCount_0f7a4_45 ?_
  refine r_iadd X dJ6_bitCount_0f7a4_46 ?_
  refine r_istore_n X (lv' := [(0, .int (((((((x0 - (((x0.toUInt32 >>> ((1 : Int32).toUInt32 &&& Int32.toUInt32 31)).toInt32) &&& 1431655765)) &&& 858993459) + ((((x0 - (((x0.toUInt32 >>> ((1 : Int32).toUInt32 &&& Int32.toUInt32 31)).toInt32) &&& 1431655765)).toUInt32 >>> ((2 : Int32).toUInt32 &&& Int32.toUInt32 31)).toInt32) &&& 858993459)) + (((((x0 - (((x0.toUInt32 >>> ((1 : Int32).toUInt32 &&& Int32.toUInt32 31)).toInt32) &&& 1431655765)) &&& 858993459) + ((((x0 - (((x0.toUInt32 >>> ((1 : Int32).toUInt32 &&& Int32.toUInt32 31)).toInt32) &&& 1431655765)).toUInt32 >>> ((2 : Int32).toUInt32 &&& Int32.toUInt32 31)).toInt32) &&& 858993459)).toUInt32 >>> ((4 : Int32).toUInt32 &&& Int32.toUInt32 31)).toInt32)) &&& 252645135) + (((((((x0 - (((x0.toUInt32 >>> ((1 : Int32).toUInt32 &&& Int32.toUInt32 31)).toInt32) &&& 1431655765)) &&& 858993459) + ((((x0 - (((x0.toUInt32 >>> ((1 : Int32).toUInt32 &&& Int32.toUInt32 31)).toInt32) &&& 1431655765)).toUInt32 >>> ((2 : Int32).toUInt32 &&& Int32.toUInt32 31)).toInt32) &&& 858993459)) + (((((x0 - (((x0.toUInt32 >>> ((1 : Int32).toUInt32 &&& Int32.toUInt32 31)).toInt32) &&& 1431655765)) &&& 858993459) + ((((x0 - (((x0.toUInt32 >>> ((1 : Int32).toUInt32 &&& Int32.toUInt32 31)).toInt32) &&& 1431655765)).toUInt32 >>> ((2 : Int32).toUInt32 &&& Int32.toUInt32 31)).toInt32) &&& 858993459)).toUInt32 >>> ((4 : Int32).toUInt32 &&& Int32.toUInt32 31)).toInt32)) &&& 252645135).toUInt32 >>> ((8 : Int32).toUInt32 &&& Int32.toUInt32 31)).toInt32)) + ((((((((x0 - (((x0.toUInt32 >>> ((1 : Int32).toUInt32 &&& Int32.toUInt32 31)).toInt32) &&& 1431655765)) &&& 858993459) + ((((x0 - (((x0.toUInt32 >>> ((1 : Int32).toUInt32 &&& Int32.toUInt32 31)).toInt32) &&& 1431655765)).toUInt32 >>> ((2 : Int32).toUInt32 &&& Int32.toUInt32 31)).toInt32) &&& 858993459)) + (((((x0 - (((x0.toUInt32 >>> ((1 : Int32).toUInt32 &&& Int32.toUInt32 31)).toInt32) &&& 1431655765)) &&& 858993459) + ((((x0 - (((x0.toUInt32 >>> ((1 : Int32).toUInt32 &&& Int32.toUInt32 31)).toInt32) &&& 1431655765)).toUInt32 >>> ((2 : Int32).toUInt32 &&& Int32.toUInt32 31)).toInt32) &&& 858993459)).toUInt32 >>> ((4 : Int32).toUInt32 &&& Int32.toUInt32 31)).toInt32)) &&& 252645135) + (((((((x0 - (((x0.toUInt32 >>> ((1 : Int32).toUInt32 &&& Int32.toUInt32 31)).toInt32) &&& 1431655765)) &&& 858993459) + ((((x0 - (((x0.toUInt32 >>> ((1 : Int32).toUInt32 &&& Int32.toUInt32 31)).toInt32) &&& 1431655765)).toUInt32 >>> ((2 : Int32).toUInt32 &&& Int32.toUInt32 31)).toInt32) &&& 858993459)) + (((((x0 - (((x0.toUInt32 >>> ((1 : Int32).toUInt32 &&& Int32.toUInt32 31)).toInt32) &&& 1431655765)) &&& 858993459) + ((((x0 - (((x0.toUInt32 >>> ((1 : Int32).toUInt32 &&& Int32.toUInt32 31)).toInt32) &&& 1431655765)).toUInt32 >>> ((2 : Int32).toUInt32 &&& Int32.toUInt32 31)).toInt32) &&& 858993459)).toUInt32 >>> ((4 : Int32).toUInt32 &&& Int32.toUInt32 31)).toInt32)) &&& 252645135).toUInt32 >>> ((8 : Int32).toUInt32 &&& Int32.toUInt32 31)).toInt32)).toUInt32 >>> ((16 : Int32).toUInt32 &&& Int32.toUInt32 31)).toInt32)))]) dJ6_bitCount_0f7a4_47 rfl (by decide) rfl ?_
  refine r_iload_n X (j := 0) dJ6_bitCount_0f7a4_48 rfl rfl ?_
  refine r_bipush X (v := 63) dJ6_bitCount_0f7a4_49 (by decide) ?_
  refine r_iand X dJ6_bitCount_0f7a4_51 ?_
  exact r_ireturn X dJ6_bitCount_0f7a4_52
set_option maxRecDepth 100000 in
set_option maxHeartbeats 4000000 in
theorem cl_X1r_leastWithRoom_2 (l : Launch) (D : va_G) (cI cZ : ClassId) (α : Nat → Nat) (A : Nat → Prop) (hJ : ∀ σ, va_D A ((kwX cI α) σ)) {p : Program} {e : Env} {s : State} {m : MethodId} {args : Array Value} {below : List Frame} {meth : Method} {c : Code} (X : CX p s m args meth c cX1_leastWithRoom 2 RX1 D (tyA cI cZ) (kwX cI α) A (some .int)) : ∀ (n : Nat) (x1 : Int32) (σ : KS), Cr p l e (rmd 0) s m args below meth c 2 D (kwX cI α) A vI 2 [(0, .ref (α 2)), (1, .int x1)] [] σ (f_X1r_leastWithRoom_2 n x1 σ) := by
  intro n
  induction n with
  | zero => intros; exact r_none
  | succ n ih =>
    intro x1 σ
    rw [f_X1r_leastWithRoom_2]
    refine r_iload_n X (j := 1) dX1_leastWithRoom_2 rfl rfl ?_
    refine r_sipush X (v := 128) dX1_leastWithRoom_3 (by decide) ?_
    refine r_icmp_ge X (tgt := 37) dX1_leastWithRoom_6 (by decide) (fun _ => ?_) (fun _ => ?_)
    · refine r_iconst X (v := (-1)) dX1_leastWithRoom_37 (by decide) ?_
      exact r_ireturn X dX1_leastWithRoom_38
    · refine r_aload_n X (j := 0) dX1_leastWithRoom_9 rfl rfl ?_
      refine r_get X (ci := 1) (q0 := 2) (v := .ref (α 6)) inX1 rfl rfl 1 (by decide) rfl fl_X1_15 dX1_leastWithRoom_10 ?_
      refine r_iload_n X (j := 1) dX1_leastWithRoom_13 rfl rfl ?_
      refine r_iald X (q0 := 6) (t0 := 0) (kk := 6) rfl rfl dX1_leastWithRoom_14 ?_
      refine r_if_eq X (tgt := 31) dX1_leastWithRoom_15 (by decide) (fun _ => ?_) (fun _ => ?_)
      · refine r_iinc X (j := 1) (v := (x1 + 1)) (lv' := [(1, .int (x1 + 1)), (0, .ref (α 2))]) dX1_leastWithRoom_31 rfl rfl (by decide) rfl ?_
        refine r_goto X (tgt := 2) dX1_leastWithRoom_34 (by decide) ?_
        refine r_sub (lv' := [(0, .ref (α 2)), (1, .int (x1 + 1))]) [1, 0] rfl ?_
        exact ih (x1 + 1) σ
      · refine r_aload_n X (j := 0) dX1_leastWithRoom_18 rfl rfl ?_
        refine r_get X (ci := 1) (q0 := 2) (v := .ref (α 6)) inX1 rfl rfl 1 (by decide) rfl fl_X1_15 dX1_leastWithRoom_19 ?_
        refine r_iload_n X (j := 1) dX1_leastWithRoom_22 rfl rfl ?_
        refine r_iald X (q0 := 6) (t0 := 0) (kk := 6) rfl rfl dX1_leastWithRoom_23 ?_
        refine r_bipush X (v := 15) dX1_leastWithRoom_24 (by decide) ?_
        refine r_icmp_eq X (tgt := 31) dX1_leastWithRoom_26 (by decide) (fun _ => ?_) (fun _ => ?_)
        · refine r_iinc X (j := 1) (v := (x1 + 1)) (lv' := [(1, .int (x1 + 1)), (0, .ref (α 2))]) dX1_leastWithRoom_31 rfl rfl (by decide) rfl ?_
          refine r_goto X (tgt := 2) dX1_leastWithRoom_34 (by decide) ?_
          refine r_sub (lv' := [(0, .ref (α 2)), (1, .int (x1 + 1))]) [1, 0] rfl ?_
          exact ih (x1 + 1) σ
        · refine r_iload_n X (j := 1) dX1_leastWithRoom_29 rfl rfl ?_
          exact r_ireturn X dX1_leastWithRoom_30
set_option maxRecDepth 100000 in
set_option maxHeartbeats 4000000 in
theorem c_X1r_leastWithRoom (l : Launch) (D : va_G) (cI cZ : ClassId) (α : Nat → Nat) (A : Nat → Prop) (hJ : ∀ σ, va_D A ((kwX cI α) σ)) (σ : KS) : Ct l D (tyA cI cZ) (kwX cI α) A yX1_leastWithRoom cX1_leastWithRoom 2 (some .int) 0 vI [.ref (α 2)] σ (m_X1r_leastWithRoom σ) := by
  refine Ct.of (own := RX1) hJ (by decide) rfl (Nat.le_of_ble_eq_true rfl) ?_
  intro p e s m args below meth c X
  refine r_sub (lv' := [(0, .ref (α 2))]) [0] rfl ?_
  unfold m_X1r_leastWithRoom
  refine r_iconst X (v := 0) dX1_leastWithRoom_0 (by decide) ?_
  refine r_istore_n X (lv' := [(1, .int 0), (0, .ref (α 2))]) dX1_leastWithRoom_1 rfl (by decide) rfl ?_
  refine r_sub (lv' := [(0, .ref (α 2)), (1, .int 0)]) [1, 0] rfl ?_
  exact cl_X1r_leastWithRoom_2 l D cI cZ α A hJ X FU 0 σ
set_option maxRecDepth 100000 in
set_option maxHeartbeats 4000000 in
theorem cl_X1t_leastWithRoom_2 (l : Launch) (D : va_G) (cI cZ : ClassId) (α : Nat → Nat) (A : Nat → Prop) (hJ : ∀ σ, va_D A ((kwX cI α) σ)) {p : Program} {e : Env} {s : State} {m : MethodId} {args : Array Value} {below : List Frame} {meth : Method} {c : Code} (X : CX p s m args meth c cX1_leastWithRoom 2 RX1 D (tyA cI cZ) (kwX cI α) A (some .int)) : ∀ (n : Nat) (x1 : Int32) (σ : KS), Cr p l e (rmd 0) s m args below meth c 2 D (kwX cI α) A vI 2 [(0, .ref (α 3)), (1, .int x1)] [] σ (f_X1t_leastWithRoom_2 n x1 σ) := by
  intro n
  induction n with
  | zero => intros; exact r_none
  | succ n ih =>
    intro x1 σ
    rw [f_X1t_leastWithRoom_2]
    refine r_iload_n X (j := 1) dX1_leastWithRoom_2 rfl rfl ?_
    refine r_sipush X (v := 128) dX1_leastWithRoom_3 (by decide) ?_
    refine r_icmp_ge X (tgt := 37) dX1_leastWithRoom_6 (by decide) (fun _ => ?_) (fun _ => ?_)
    · refine r_iconst X (v := (-1)) dX1_leastWithRoom_37 (by decide) ?_
      exact r_ireturn X dX1_leastWithRoom_38
    · refine r_aload_n X (j := 0) dX1_leastWithRoom_9 rfl rfl ?_
      refine r_get X (ci := 1) (q0 := 3) (v := .ref (α 7)) inX1 rfl rfl 1 (by decide) rfl fl_X1_15 dX1_leastWithRoom_10 ?_
      refine r_iload_n X (j := 1) dX1_leastWithRoom_13 rfl rfl ?_
      refine r_iald X (q0 := 7) (t0 := 0) (kk := 7) rfl rfl dX1_leastWithRoom_14 ?_
      refine r_if_eq X (tgt := 31) dX1_leastWithRoom_15 (by decide) (fun _ => ?_) (fun _ => ?_)
      · refine r_iinc X (j := 1) (v := (x1 + 1)) (lv' := [(1, .int (x1 + 1)), (0, .ref (α 3))]) dX1_leastWithRoom_31 rfl rfl (by decide) rfl ?_
        refine r_goto X (tgt := 2) dX1_leastWithRoom_34 (by decide) ?_
        refine r_sub (lv' := [(0, .ref (α 3)), (1, .int (x1 + 1))]) [1, 0] rfl ?_
        exact ih (x1 + 1) σ
      · refine r_aload_n X (j := 0) dX1_leastWithRoom_18 rfl rfl ?_
        refine r_get X (ci := 1) (q0 := 3) (v := .ref (α 7)) inX1 rfl rfl 1 (by decide) rfl fl_X1_15 dX1_leastWithRoom_19 ?_
        refine r_iload_n X (j := 1) dX1_leastWithRoom_22 rfl rfl ?_
        refine r_iald X (q0 := 7) (t0 := 0) (kk := 7) rfl rfl dX1_leastWithRoom_23 ?_
        refine r_bipush X (v := 15) dX1_leastWithRoom_24 (by decide) ?_
        refine r_icmp_eq X (tgt := 31) dX1_leastWithRoom_26 (by decide) (fun _ => ?_) (fun _ => ?_)
        · refine r_iinc X (j := 1) (v := (x1 + 1)) (lv' := [(1, .int (x1 + 1)), (0, .ref (α 3))]) dX1_leastWithRoom_31 rfl rfl (by decide) rfl ?_
          refine r_goto X (tgt := 2) dX1_leastWithRoom_34 (by decide) ?_
          refine r_sub (lv' := [(0, .ref (α 3)), (1, .int (x1 + 1))]) [1, 0] rfl ?_
          exact ih (x1 + 1) σ
        · refine r_iload_n X (j := 1) dX1_leastWithRoom_29 rfl rfl ?_
          exact r_ireturn X dX1_leastWithRoom_30
set_option maxRecDepth 100000 in
set_option maxHeartbeats 4000000 in
theorem c_X1t_leastWithRoom (l : Launch) (D : va_G) (cI cZ : ClassId) (α : Nat → Nat) (A : Nat → Prop) (hJ : ∀ σ, va_D A ((kwX cI α) σ)) (σ : KS) : Ct l D (tyA cI cZ) (kwX cI α) A yX1_leastWithRoom cX1_leastWithRoom 2 (some .int) 0 vI [.ref (α 3)] σ (m_X1t_leastWithRoom σ) := by
  refine Ct.of (own := RX1) hJ (by decide) rfl (Nat.le_of_ble_eq_true rfl) ?_
  intro p e s m args below meth c X
  refine r_sub (lv' := [(0, .ref (α 3))]) [0] rfl ?_
  unfold m_X1t_leastWithRoom
  refine r_iconst X (v := 0) dX1_leastWithRoom_0 (by decide) ?_
  refine r_istore_n X (lv' := [(1, .int 0), (0, .ref (α 3))]) dX1_leastWithRoom_1 rfl (by decide) rfl ?_
  refine r_sub (lv' := [(0, .ref (α 3)), (1, .int 0)]) [1, 0] rfl ?_
  exact cl_X1t_leastWithRoom_2 l D cI cZ α A hJ X FU 0 σ
set_option maxRecDepth 100000 in
set_option maxHeartbeats 4000000 in
theorem cl_X2_childrenOf_4 (l : Launch) (D : va_G) (cI cZ : ClassId) (α : Nat → Nat) (A : Nat → Prop) (hJ : ∀ σ, va_D A ((kwX cI α) σ)) {p : Program} {e : Env} {s : State} {m : MethodId} {args : Array Value} {below : List Frame} {meth : Method} {c : Code} (X : CX p s m args meth c cX2_childrenOf 4 RX2 D (tyA cI cZ) (kwX cI α) A (some .int)) : ∀ (n : Nat) (x1 : Int32) (x2 : Int32) (x3 : Int32) (σ : KS), Cr p l e (rmd 0) s m args below meth c 4 D (kwX cI α) A vI 4 [(0, .ref (α 0)), (1, .int x1), (2, .int x2), (3, .int x3)] [] σ (f_X2_childrenOf_4 n x1 x2 x3 σ) := by
  intro n
  induction n with
  | zero => intros; exact r_none
  | succ n ih =>
    intro x1 x2 x3 σ
    rw [f_X2_childrenOf_4]
    refine r_iload_n X (j := 3) dX2_childrenOf_4 rfl rfl ?_
    refine r_bipush X (v := 16) dX2_childrenOf_5 (by decide) ?_
    refine r_icmp_ge X (tgt := 29) dX2_childrenOf_7 (by decide) (fun _ => ?_) (fun _ => ?_)
    · refine r_iload_n X (j := 2) dX2_childrenOf_29 rfl rfl ?_
      exact r_ireturn X dX2_childrenOf_30
    · refine r_aload_n X (j := 0) dX2_childrenOf_10 rfl rfl ?_
      refine r_get X (ci := 2) (q0 := 0) (v := .ref (α 12)) inX2 rfl rfl 7 (by decide) rfl fl_X2_41 dX2_childrenOf_11 ?_
      refine r_iload_n X (j := 3) dX2_childrenOf_14 rfl rfl ?_
      refine r_iald X (q0 := 12) (t0 := 0) (kk := 12) rfl rfl dX2_childrenOf_15 ?_
      refine r_iload_n X (j := 1) dX2_childrenOf_16 rfl rfl ?_
      refine r_icmp_ne X (tgt := 23) dX2_childrenOf_17 (by decide) (fun _ => ?_) (fun _ => ?_)
      · refine r_iinc X (j := 2) (v := (x2 + 1)) (lv' := [(2, .int (x2 + 1)), (0, .ref (α 0)), (1, .int x1), (3, .int x3)]) dX2_childrenOf_20 rfl rfl (by decide) rfl ?_
        refine r_iinc X (j := 3) (v := (x3 + 1)) (lv' := [(3, .int (x3 + 1)), (2, .int (x2 + 1)), (0, .ref (α 0)), (1, .int x1)]) dX2_childrenOf_23 rfl rfl (by decide) rfl ?_
        refine r_goto X (tgt := 4) dX2_childrenOf_26 (by decide) ?_
        refine r_sub (lv' := [(0, .ref (α 0)), (1, .int x1), (2, .int (x2 + 1)), (3, .int (x3 + 1))]) [2, 3, 1, 0] rfl ?_
        exact ih x1 (x2 + 1) (x3 + 1) σ
      · refine r_iinc X (j := 3) (v := (x3 + 1)) (lv' := [(3, .int (x3 + 1)), (0, .ref (α 0)), (1, .int x1), (2, .int x2)]) dX2_childrenOf_23 rfl rfl (by decide) rfl ?_
        refine r_goto X (tgt := 4) dX2_childrenOf_26 (by decide) ?_
        refine r_sub (lv' := [(0, .ref (α 0)), (1, .int x1), (2, .int x2), (3, .int (x3 + 1))]) [1, 2, 3, 0] rfl ?_
        exact ih x1 x2 (x3 + 1) σ
set_option maxRecDepth 100000 in
set_option maxHeartbeats 4000000 in
theorem c_X2_childrenOf (l : Launch) (D : va_G) (cI cZ : ClassId) (α : Nat → Nat) (A : Nat → Prop) (hJ : ∀ σ, va_D A ((kwX cI α) σ)) (x1 : Int32) (σ : KS) : Ct l D (tyA cI cZ) (kwX cI α) A yX2_childrenOf cX2_childrenOf 4 (some .int) 0 vI [.ref (α 0), .int x1] σ (m_X2_childrenOf x1 σ) := by
  refine Ct.of (own := RX2) hJ (by decide) rfl (Nat.le_of_ble_eq_true rfl) ?_
  intro p e s m args below meth c X
  refine r_sub (lv' := [(0, .ref (α 0)), (1, .int x1)]) [0, 1] rfl ?_
  unfold m_X2_childrenOf
  refine r_iconst X (v := 0) dX2_childrenOf_0 (by decide) ?_
  refine r_istore_n X (lv' := [(2, .int 0), (0, .ref (α 0)), (1, .int x1)]) dX2_childrenOf_1 rfl (by decide) rfl ?_
  refine r_iconst X (v := 0) dX2_childrenOf_2 (by decide) ?_
  refine r_istore_n X (lv' := [(3, .int 0), (2, .int 0), (0, .ref (α 0)), (1, .int x1)]) dX2_childrenOf_3 rfl (by decide) rfl ?_
  refine r_sub (lv' := [(0, .ref (α 0)), (1, .int x1), (2, .int 0), (3, .int 0)]) [2, 3, 1, 0] rfl ?_
  exact cl_X2_childrenOf_4 l D cI cZ α A hJ X FU x1 0 0 σ
set_option maxRecDepth 100000 in
set_option maxHeartbeats 4000000 in
theorem cl_X2_countInState_4 (l : Launch) (D : va_G) (cI cZ : ClassId) (α : Nat → Nat) (A : Nat → Prop) (hJ : ∀ σ, va_D A ((kwX cI α) σ)) {p : Program} {e : Env} {s : State} {m : MethodId} {args : Array Value} {below : List Frame} {meth : Method} {c : Code} (X : CX p s m args meth c cX2_countInState 4 RX2 D (tyA cI cZ) (kwX cI α) A (some .int)) : ∀ (n : Nat) (x1 : Int32) (x2 : Int32) (x3 : Int32) (σ : KS), Cr p l e (rmd 0) s m args below meth c 4 D (kwX cI α) A vI 4 [(0, .ref (α 0)), (1, .int x1), (2, .int x2), (3, .int x3)] [] σ (f_X2_countInState_4 n x1 x2 x3 σ) := by
  intro n
  induction n with
  | zero => intros; exact r_none
  | succ n ih =>
    intro x1 x2 x3 σ
    rw [f_X2_countInState_4]
    refine r_iload_n X (j := 3) dX2_countInState_4 rfl rfl ?_
    refine r_bipush X (v := 16) dX2_countInState_5 (by decide) ?_
    refine r_icmp_ge X (tgt := 29) dX2_countInState_7 (by decide) (fun _ => ?_) (fun _ => ?_)
    · refine r_iload_n X (j := 2) dX2_countInState_29 rfl rfl ?_
      exact r_ireturn X dX2_countInState_30
    · refine r_aload_n X (j := 0) dX2_countInState_10 rfl rfl ?_
      refine r_get X (ci := 2) (q0 := 0) (v := .ref (α 11)) inX2 rfl rfl 6 (by decide) rfl fl_X2_38 dX2_countInState_11 ?_
      refine r_iload_n X (j := 3) dX2_countInState_14 rfl rfl ?_
      refine r_iald X (q0 := 11) (t0 := 0) (kk := 11) rfl rfl dX2_countInState_15 ?_
      refine r_iload_n X (j := 1) dX2_countInState_16 rfl rfl ?_
      refine r_icmp_ne X (tgt := 23) dX2_countInState_17 (by decide) (fun _ => ?_) (fun _ => ?_)
      · refine r_iinc X (j := 2) (v := (x2 + 1)) (lv' := [(2, .int (x2 + 1)), (0, .ref (α 0)), (1, .int x1), (3, .int x3)]) dX2_countInState_20 rfl rfl (by decide) rfl ?_
        refine r_iinc X (j := 3) (v := (x3 + 1)) (lv' := [(3, .int (x3 + 1)), (2, .int (x2 + 1)), (0, .ref (α 0)), (1, .int x1)]) dX2_countInState_23 rfl rfl (by decide) rfl ?_
        refine r_goto X (tgt := 4) dX2_countInState_26 (by decide) ?_
        refine r_sub (lv' := [(0, .ref (α 0)), (1, .int x1), (2, .int (x2 + 1)), (3, .int (x3 + 1))]) [2, 3, 1, 0] rfl ?_
        exact ih x1 (x2 + 1) (x3 + 1) σ
      · refine r_iinc X (j := 3) (v := (x3 + 1)) (lv' := [(3, .int (x3 + 1)), (0, .ref (α 0)), (1, .int x1), (2, .int x2)]) dX2_countInState_23 rfl rfl (by decide) rfl ?_
        refine r_goto X (tgt := 4) dX2_countInState_26 (by decide) ?_
        refine r_sub (lv' := [(0, .ref (α 0)), (1, .int x1), (2, .int x2), (3, .int (x3 + 1))]) [1, 2, 3, 0] rfl ?_
        exact ih x1 x2 (x3 + 1) σ
set_option maxRecDepth 100000 in
set_option maxHeartbeats 4000000 in
theorem c_X2_countInState (l : Launch) (D : va_G) (cI cZ : ClassId) (α : Nat → Nat) (A : Nat → Prop) (hJ : ∀ σ, va_D A ((kwX cI α) σ)) (x1 : Int32) (σ : KS) : Ct l D (tyA cI cZ) (kwX cI α) A yX2_countInState cX2_countInState 4 (some .int) 0 vI [.ref (α 0), .int x1] σ (m_X2_countInState x1 σ) := by
  refine Ct.of (own := RX2) hJ (by decide) rfl (Nat.le_of_ble_eq_true rfl) ?_
  intro p e s m args below meth c X
  refine r_sub (lv' := [(0, .ref (α 0)), (1, .int x1)]) [0, 1] rfl ?_
  unfold m_X2_countInState
  refine r_iconst X (v := 0) dX2_countInState_0 (by decide) ?_
  refine r_istore_n X (lv' := [(2, .int 0), (0, .ref (α 0)), (1, .int x1)]) dX2_countInState_1 rfl (by decide) rfl ?_
  refine r_iconst X (v := 0) dX2_countInState_2 (by decide) ?_
  refine r_istore_n X (lv' := [(3, .int 0), (2, .int 0), (0, .ref (α 0)), (1, .int x1)]) dX2_countInState_3 rfl (by decide) rfl ?_
  refine r_sub (lv' := [(0, .ref (α 0)), (1, .int x1), (2, .int 0), (3, .int 0)]) [2, 3, 1, 0] rfl ?_
  exact cl_X2_countInState_4 l D cI cZ α A hJ X FU x1 0 0 σ
set_option maxRecDepth 100000 in
set_option maxHeartbeats 4000000 in
theorem c_X2_current (l : Launch) (D : va_G) (cI cZ : ClassId) (α : Nat → Nat) (A : Nat → Prop) (hJ : ∀ σ, va_D A ((kwX cI α) σ)) (σ : KS) : Ct l D (tyA cI cZ) (kwX cI α) A yX2_current cX2_current 1 (some .int) 0 vI [.ref (α 0)] σ (m_X2_current σ) := by
  refine Ct.of (own := RX2) hJ (by decide) rfl (Nat.le_of_ble_eq_true rfl) ?_
  intro p e s m args below meth c X
  refine r_sub (lv' := [(0, .ref (α 0))]) [0] rfl ?_
  unfold m_X2_current
  refine r_aload_n X (j := 0) dX2_current_0 rfl rfl ?_
  refine r_get X (ci := 2) (q0 := 0) (v := .int (gv σ 0)) inX2 rfl rfl 12 (by decide) rfl fl_X2_108 dX2_current_1 ?_
  refine r_if_ne X (tgt := 11) dX2_current_4 (by decide) (fun _ => ?_) (fun _ => ?_)
  · refine r_iconst X (v := (-1)) dX2_current_7 (by decide) ?_
    refine r_goto X (tgt := 17) dX2_current_8 (by decide) ?_
    exact r_ireturn X dX2_current_17
  · refine r_aload_n X (j := 0) dX2_current_11 rfl rfl ?_
    refine r_get X (ci := 2) (q0 := 0) (v := .ref (α 16)) inX2 rfl rfl 11 (by decide) rfl fl_X2_53 dX2_current_12 ?_
    refine r_iconst X (v := 0) dX2_current_15 (by decide) ?_
    refine r_iald X (q0 := 16) (t0 := 0) (kk := 16) rfl rfl dX2_current_16 ?_
    exact r_ireturn X dX2_current_17
set_option maxRecDepth 100000 in
set_option maxHeartbeats 4000000 in
theorem c_X2_isFrame (l : Launch) (D : va_G) (cI cZ : ClassId) (α : Nat → Nat) (A : Nat → Prop) (hJ : ∀ σ, va_D A ((kwX cI α) σ)) (x0 : Int32) (σ : KS) : Ct l D (tyA cI cZ) (kwX cI α) A yX2_isFrame cX2_isFrame 1 (some .boolean) 0 vI [.int x0] σ (m_X2_isFrame x0 σ) := by
  refine Ct.of (own := RX2) hJ (by decide) rfl (Nat.le_of_ble_eq_true rfl) ?_
  intro p e s m args below meth c X
  refine r_sub (lv' := [(0, .int x0)]) [0] rfl ?_
  unfold m_X2_isFrame
  refine r_iload_n X (j := 0) dX2_isFrame_0 rfl rfl ?_
  refine r_if_lt X (tgt := 15) dX2_isFrame_1 (by decide) (fun _ => ?_) (fun _ => ?_)
  · refine r_iconst X (v := 0) dX2_isFrame_15 (by decide) ?_
    exact r_zreturn X (by decide) dX2_isFrame_16
  · refine r_iload_n X (j := 0) dX2_isFrame_4 rfl rfl ?_
    refine r_sipush X (v := 128) dX2_isFrame_5 (by decide) ?_
    refine r_icmp_ge X (tgt := 15) dX2_isFrame_8 (by decide) (fun _ => ?_) (fun _ => ?_)
    · refine r_iconst X (v := 0) dX2_isFrame_15 (by decide) ?_
      exact r_zreturn X (by decide) dX2_isFrame_16
    · refine r_iconst X (v := 1) dX2_isFrame_11 (by decide) ?_
      refine r_goto X (tgt := 16) dX2_isFrame_12 (by decide) ?_
      exact r_zreturn X (by decide) dX2_isFrame_16
set_option maxRecDepth 100000 in
set_option maxHeartbeats 4000000 in
theorem c_X2_isNumber (l : Launch) (D : va_G) (cI cZ : ClassId) (α : Nat → Nat) (A : Nat → Prop) (hJ : ∀ σ, va_D A ((kwX cI α) σ)) (x0 : Int32) (σ : KS) : Ct l D (tyA cI cZ) (kwX cI α) A yX2_isNumber cX2_isNumber 1 (some .boolean) 0 vI [.int x0] σ (m_X2_isNumber x0 σ) := by
  refine Ct.of (own := RX2) hJ (by decide) rfl (Nat.le_of_ble_eq_true rfl) ?_
  intro p e s m args below meth c X
  refine r_sub (lv' := [(0, .int x0)]) [0] rfl ?_
  unfold m_X2_isNumber
  refine r_iload_n X (j := 0) dX2_isNumber_0 rfl rfl ?_
  refine r_if_lt X (tgt := 14) dX2_isNumber_1 (by decide) (fun _ => ?_) (fun _ => ?_)
  · refine r_iconst X (v := 0) dX2_isNumber_14 (by decide) ?_
    exact r_zreturn X (by decide) dX2_isNumber_15
  · refine r_iload_n X (j := 0) dX2_isNumber_4 rfl rfl ?_
    refine r_bipush X (v := 16) dX2_isNumber_5 (by decide) ?_
    refine r_icmp_ge X (tgt := 14) dX2_isNumber_7 (by decide) (fun _ => ?_) (fun _ => ?_)
    · refine r_iconst X (v := 0) dX2_isNumber_14 (by decide) ?_
      exact r_zreturn X (by decide) dX2_isNumber_15
    · refine r_iconst X (v := 1) dX2_isNumber_10 (by decide) ?_
      refine r_goto X (tgt := 15) dX2_isNumber_11 (by decide) ?_
      exact r_zreturn X (by decide) dX2_isNumber_15
set_option maxRecDepth 100000 in
set_option maxHeartbeats 4000000 in
theorem c_X2_isOrder (l : Launch) (D : va_G) (cI cZ : ClassId) (α : Nat → Nat) (A : Nat → Prop) (hJ : ∀ σ, va_D A ((kwX cI α) σ)) (x0 : Int32) (σ : KS) : Ct l D (tyA cI cZ) (kwX cI α) A yX2_isOrder cX2_isOrder 1 (some .boolean) 0 vI [.int x0] σ (m_X2_isOrder x0 σ) := by
  refine Ct.of (own := RX2) hJ (by decide) rfl (Nat.le_of_ble_eq_true rfl) ?_
  intro p e s m args below meth c X
  refine r_sub (lv' := [(0, .int x0)]) [0] rfl ?_
  unfold m_X2_isOrder
  refine r_iload_n X (j := 0) dX2_isOrder_0 rfl rfl ?_
  refine r_if_lt X (tgt := 14) dX2_isOrder_1 (by decide) (fun _ => ?_) (fun _ => ?_)
  · refine r_iconst X (v := 0) dX2_isOrder_14 (by decide) ?_
    exact r_zreturn X (by decide) dX2_isOrder_15
  · refine r_iload_n X (j := 0) dX2_isOrder_4 rfl rfl ?_
    refine r_bipush X (v := 7) dX2_isOrder_5 (by decide) ?_
    refine r_icmp_gt X (tgt := 14) dX2_isOrder_7 (by decide) (fun _ => ?_) (fun _ => ?_)
    · refine r_iconst X (v := 0) dX2_isOrder_14 (by decide) ?_
      exact r_zreturn X (by decide) dX2_isOrder_15
    · refine r_iconst X (v := 1) dX2_isOrder_10 (by decide) ?_
      refine r_goto X (tgt := 15) dX2_isOrder_11 (by decide) ?_
      exact r_zreturn X (by decide) dX2_isOrder_15
set_option maxRecDepth 100000 in
set_option maxHeartbeats 4000000 in
theorem c_X2_joinRow (l : Launch) (D : va_G) (cI cZ : ClassId) (α : Nat → Nat) (A : Nat → Prop) (hJ : ∀ σ, va_D A ((kwX cI α) σ)) (x1 : Int32) (σ : KS) : Ct l D (tyA cI cZ) (kwX cI α) A yX2_joinRow cX2_joinRow 2 none 0 vV [.ref (α 0), .int x1] σ (m_X2_joinRow x1 σ) := by
  refine Ct.of (own := RX2) hJ (by decide) rfl (Nat.le_of_ble_eq_true rfl) ?_
  intro p e s m args below meth c X
  refine r_sub (lv' := [(0, .ref (α 0)), (1, .int x1)]) [0, 1] rfl ?_
  unfold m_X2_joinRow
  refine r_aload_n X (j := 0) dX2_joinRow_0 rfl rfl ?_
  refine r_get X (ci := 2) (q0 := 0) (v := .int (gv σ 0)) inX2 rfl rfl 12 (by decide) rfl fl_X2_108 dX2_joinRow_1 ?_
  refine r_bipush X (v := 16) dX2_joinRow_4 (by decide) ?_
  refine r_icmp_ge X (tgt := 29) dX2_joinRow_6 (by decide) (fun _ => ?_) (fun _ => ?_)
  · exact r_return X dX2_joinRow_29
  · refine r_aload_n X (j := 0) dX2_joinRow_9 rfl rfl ?_
    refine r_get X (ci := 2) (q0 := 0) (v := .ref (α 16)) inX2 rfl rfl 11 (by decide) rfl fl_X2_53 dX2_joinRow_10 ?_
    refine r_aload_n X (j := 0) dX2_joinRow_13 rfl rfl ?_
    refine r_get X (ci := 2) (q0 := 0) (v := .int (gv σ 0)) inX2 rfl rfl 12 (by decide) rfl fl_X2_108 dX2_joinRow_14 ?_
    refine r_iload_n X (j := 1) dX2_joinRow_17 rfl rfl ?_
    refine r_iast X (q0 := 16) (t0 := 0) (kk := 16) rfl (fun _ => rfl) rfl dX2_joinRow_18 ?_
    refine r_aload_n X (j := 0) dX2_joinRow_19 rfl rfl ?_
    refine r_dup X dX2_joinRow_20 rfl ?_
    refine r_get X (ci := 2) (q0 := 0) (v := .int (gv (wr σ 16 (gv σ 0) x1) 0)) inX2 rfl rfl 12 (by decide) rfl fl_X2_108 dX2_joinRow_21 ?_
    refine r_iconst X (v := 1) dX2_joinRow_24 (by decide) ?_
    refine r_iadd X dX2_joinRow_25 ?_
    refine r_put X (ci := 2) (q0 := 0) (j := 0) inX2 rfl tyX2_ok nmX2 rfl 12 (by decide) rfl fl_X2_108 rfl (by decide +kernel) (Nat.le_of_ble_eq_true rfl) dX2_joinRow_26 ?_
    exact r_return X dX2_joinRow_29
set_option maxRecDepth 100000 in
set_option maxHeartbeats 4000000 in
theorem cl_X2_leastUnused_2 (l : Launch) (D : va_G) (cI cZ : ClassId) (α : Nat → Nat) (A : Nat → Prop) (hJ : ∀ σ, va_D A ((kwX cI α) σ)) {p : Program} {e : Env} {s : State} {m : MethodId} {args : Array Value} {below : List Frame} {meth : Method} {c : Code} (X : CX p s m args meth c cX2_leastUnused 2 RX2 D (tyA cI cZ) (kwX cI α) A (some .int)) : ∀ (n : Nat) (x1 : Int32) (σ : KS), Cr p l e (rmd 0) s m args below meth c 2 D (kwX cI α) A vI 2 [(0, .ref (α 0)), (1, .int x1)] [] σ (f_X2_leastUnused_2 n x1 σ) := by
  intro n
  induction n with
  | zero => intros; exact r_none
  | succ n ih =>
    intro x1 σ
    rw [f_X2_leastUnused_2]
    refine r_iload_n X (j := 1) dX2_leastUnused_2 rfl rfl ?_
    refine r_bipush X (v := 16) dX2_leastUnused_3 (by decide) ?_
    refine r_icmp_ge X (tgt := 25) dX2_leastUnused_5 (by decide) (fun _ => ?_) (fun _ => ?_)
    · refine r_iconst X (v := (-1)) dX2_leastUnused_25 (by decide) ?_
      exact r_ireturn X dX2_leastUnused_26
    · refine r_aload_n X (j := 0) dX2_leastUnused_8 rfl rfl ?_
      refine r_get X (ci := 2) (q0 := 0) (v := .ref (α 11)) inX2 rfl rfl 6 (by decide) rfl fl_X2_38 dX2_leastUnused_9 ?_
      refine r_iload_n X (j := 1) dX2_leastUnused_12 rfl rfl ?_
      refine r_iald X (q0 := 11) (t0 := 0) (kk := 11) rfl rfl dX2_leastUnused_13 ?_
      refine r_if_ne X (tgt := 19) dX2_leastUnused_14 (by decide) (fun _ => ?_) (fun _ => ?_)
      · refine r_iload_n X (j := 1) dX2_leastUnused_17 rfl rfl ?_
        exact r_ireturn X dX2_leastUnused_18
      · refine r_iinc X (j := 1) (v := (x1 + 1)) (lv' := [(1, .int (x1 + 1)), (0, .ref (α 0))]) dX2_leastUnused_19 rfl rfl (by decide) rfl ?_
        refine r_goto X (tgt := 2) dX2_leastUnused_22 (by decide) ?_
        refine r_sub (lv' := [(0, .ref (α 0)), (1, .int (x1 + 1))]) [1, 0] rfl ?_
        exact ih (x1 + 1) σ
set_option maxRecDepth 100000 in
set_option maxHeartbeats 4000000 in
theorem c_X2_leastUnused (l : Launch) (D : va_G) (cI cZ : ClassId) (α : Nat → Nat) (A : Nat → Prop) (hJ : ∀ σ, va_D A ((kwX cI α) σ)) (σ : KS) : Ct l D (tyA cI cZ) (kwX cI α) A yX2_leastUnused cX2_leastUnused 2 (some .int) 0 vI [.ref (α 0)] σ (m_X2_leastUnused σ) := by
  refine Ct.of (own := RX2) hJ (by decide) rfl (Nat.le_of_ble_eq_true rfl) ?_
  intro p e s m args below meth c X
  refine r_sub (lv' := [(0, .ref (α 0))]) [0] rfl ?_
  unfold m_X2_leastUnused
  refine r_iconst X (v := 0) dX2_leastUnused_0 (by decide) ?_
  refine r_istore_n X (lv' := [(1, .int 0), (0, .ref (α 0))]) dX2_leastUnused_1 rfl (by decide) rfl ?_
  refine r_sub (lv' := [(0, .ref (α 0)), (1, .int 0)]) [1, 0] rfl ?_
  exact cl_X2_leastUnused_2 l D cI cZ α A hJ X FU 0 σ
set_option maxRecDepth 100000 in
set_option maxHeartbeats 4000000 in
theorem cl_X2_leaveRow_4 (l : Launch) (D : va_G) (cI cZ : ClassId) (α : Nat → Nat) (A : Nat → Prop) (hJ : ∀ σ, va_D A ((kwX cI α) σ)) {p : Program} {e : Env} {s : State} {m : MethodId} {args : Array Value} {below : List Frame} {meth : Method} {c : Code} (X : CX p s m args meth c cX2_leaveRow 4 RX2 D (tyA cI cZ) (kwX cI α) A none) : ∀ (n : Nat) (x1 : Int32) (x2 : Int32) (x3 : Int32) (σ : KS), Cr p l e (rmd 0) s m args below meth c 4 D (kwX cI α) A vV 4 [(0, .ref (α 0)), (1, .int x1), (2, .int x2), (3, .int x3)] [] σ (f_X2_leaveRow_4 n x1 x2 x3 σ) := by
  intro n
  induction n with
  | zero => intros; exact r_none
  | succ n ih =>
    intro x1 x2 x3 σ
    rw [f_X2_leaveRow_4]
    refine r_iload_n X (j := 3) dX2_leaveRow_4 rfl rfl ?_
    refine r_aload_n X (j := 0) dX2_leaveRow_5 rfl rfl ?_
    refine r_get X (ci := 2) (q0 := 0) (v := .int (gv σ 0)) inX2 rfl rfl 12 (by decide) rfl fl_X2_108 dX2_leaveRow_6 ?_
    refine r_icmp_ge X (tgt := 43) dX2_leaveRow_9 (by decide) (fun _ => ?_) (fun _ => ?_)
    · refine r_aload_n X (j := 0) dX2_leaveRow_43 rfl rfl ?_
      refine r_iload_n X (j := 2) dX2_leaveRow_44 rfl rfl ?_
      refine r_put X (ci := 2) (q0 := 0) (j := 0) inX2 rfl tyX2_ok nmX2 rfl 12 (by decide) rfl fl_X2_108 rfl (by decide +kernel) (Nat.le_of_ble_eq_true rfl) dX2_leaveRow_45 ?_
      exact r_return X dX2_leaveRow_48
    · refine r_aload_n X (j := 0) dX2_leaveRow_12 rfl rfl ?_
      refine r_get X (ci := 2) (q0 := 0) (v := .ref (α 16)) inX2 rfl rfl 11 (by decide) rfl fl_X2_53 dX2_leaveRow_13 ?_
      refine r_iload_n X (j := 3) dX2_leaveRow_16 rfl rfl ?_
      refine r_iald X (q0 := 16) (t0 := 0) (kk := 16) rfl rfl dX2_leaveRow_17 ?_
      refine r_iload_n X (j := 1) dX2_leaveRow_18 rfl rfl ?_
      refine r_icmp_eq X (tgt := 37) dX2_leaveRow_19 (by decide) (fun _ => ?_) (fun _ => ?_)
      · refine r_iinc X (j := 3) (v := (x3 + 1)) (lv' := [(3, .int (x3 + 1)), (0, .ref (α 0)), (1, .int x1), (2, .int x2)]) dX2_leaveRow_37 rfl rfl (by decide) rfl ?_
        refine r_goto X (tgt := 4) dX2_leaveRow_40 (by decide) ?_
        refine r_sub (lv' := [(0, .ref (α 0)), (1, .int x1), (2, .int x2), (3, .int (x3 + 1))]) [1, 2, 3, 0] rfl ?_
        exact ih x1 x2 (x3 + 1) σ
      · refine r_aload_n X (j := 0) dX2_leaveRow_22 rfl rfl ?_
        refine r_get X (ci := 2) (q0 := 0) (v := .ref (α 16)) inX2 rfl rfl 11 (by decide) rfl fl_X2_53 dX2_leaveRow_23 ?_
        refine r_iload_n X (j := 2) dX2_leaveRow_26 rfl rfl ?_
        refine r_aload_n X (j := 0) dX2_leaveRow_27 rfl rfl ?_
        refine r_get X (ci := 2) (q0 := 0) (v := .ref (α 16)) inX2 rfl rfl 11 (by decide) rfl fl_X2_53 dX2_leaveRow_28 ?_
        refine r_iload_n X (j := 3) dX2_leaveRow_31 rfl rfl ?_
        refine r_iald X (q0 := 16) (t0 := 0) (kk := 16) rfl rfl dX2_leaveRow_32 ?_
        refine r_iast X (q0 := 16) (t0 := 0) (kk := 16) rfl (fun _ => rfl) rfl dX2_leaveRow_33 ?_
        refine r_iinc X (j := 2) (v := (x2 + 1)) (lv' := [(2, .int (x2 + 1)), (0, .ref (α 0)), (1, .int x1), (3, .int x3)]) dX2_leaveRow_34 rfl rfl (by decide) rfl ?_
        refine r_iinc X (j := 3) (v := (x3 + 1)) (lv' := [(3, .int (x3 + 1)), (2, .int (x2 + 1)), (0, .ref (α 0)), (1, .int x1)]) dX2_leaveRow_37 rfl rfl (by decide) rfl ?_
        refine r_goto X (tgt := 4) dX2_leaveRow_40 (by decide) ?_
        refine r_sub (lv' := [(0, .ref (α 0)), (1, .int x1), (2, .int (x2 + 1)), (3, .int (x3 + 1))]) [2, 3, 1, 0] rfl ?_
        exact ih x1 (x2 + 1) (x3 + 1) (wr σ 16 x2 (rd σ 16 x3))
set_option maxRecDepth 100000 in
set_option maxHeartbeats 4000000 in
theorem c_X2_leaveRow (l : Launch) (D : va_G) (cI cZ : ClassId) (α : Nat → Nat) (A : Nat → Prop) (hJ : ∀ σ, va_D A ((kwX cI α) σ)) (x1 : Int32) (σ : KS) : Ct l D (tyA cI cZ) (kwX cI α) A yX2_leaveRow cX2_leaveRow 4 none 0 vV [.ref (α 0), .int x1] σ (m_X2_leaveRow x1 σ) := by
  refine Ct.of (own := RX2) hJ (by decide) rfl (Nat.le_of_ble_eq_true rfl) ?_
  intro p e s m args below meth c X
  refine r_sub (lv' := [(0, .ref (α 0)), (1, .int x1)]) [0, 1] rfl ?_
  unfold m_X2_leaveRow
  refine r_iconst X (v := 0) dX2_leaveRow_0 (by decide) ?_
  refine r_istore_n X (lv' := [(2, .int 0), (0, .ref (α 0)), (1, .int x1)]) dX2_leaveRow_1 rfl (by decide) rfl ?_
  refine r_iconst X (v := 0) dX2_leaveRow_2 (by decide) ?_
  refine r_istore_n X (lv' := [(3, .int 0), (2, .int 0), (0, .ref (α 0)), (1, .int x1)]) dX2_leaveRow_3 rfl (by decide) rfl ?_
  refine r_sub (lv' := [(0, .ref (α 0)), (1, .int x1), (2, .int 0), (3, .int 0)]) [2, 3, 1, 0] rfl ?_
  exact cl_X2_leaveRow_4 l D cI cZ α A hJ X FU x1 0 0 σ
set_option maxRecDepth 100000 in
set_option maxHeartbeats 4000000 in
theorem c_X2_pageOf (l : Launch) (D : va_G) (cI cZ : ClassId) (α : Nat → Nat) (A : Nat → Prop) (hJ : ∀ σ, va_D A ((kwX cI α) σ)) (x0 : Int32) (σ : KS) : Ct l D (tyA cI cZ) (kwX cI α) A yX2_pageOf cX2_pageOf 1 (some .int) 0 vI [.int x0] σ (m_X2_pageOf x0 σ) := by
  refine Ct.of (own := RX2) hJ (by decide) rfl (Nat.le_of_ble_eq_true rfl) ?_
  intro p e s m args below meth c X
  refine r_sub (lv' := [(0, .int x0)]) [0] rfl ?_
  unfold m_X2_pageOf
  refine r_iload_n X (j := 0) dX2_pageOf_0 rfl rfl ?_
  refine r_bipush X (v := 6) dX2_pageOf_1 (by decide) ?_
  refine r_ishr X dX2_pageOf_3 ?_
  exact r_ireturn X dX2_pageOf_4
set_option maxRecDepth 100000 in
set_option maxHeartbeats 4000000 in
theorem cl_X2_placeInRow_2 (l : Launch) (D : va_G) (cI cZ : ClassId) (α : Nat → Nat) (A : Nat → Prop) (hJ : ∀ σ, va_D A ((kwX cI α) σ)) {p : Program} {e : Env} {s : State} {m : MethodId} {args : Array Value} {below : List Frame} {meth : Method} {c : Code} (X : CX p s m args meth c cX2_placeInRow 3 RX2 D (tyA cI cZ) (kwX cI α) A (some .int)) : ∀ (n : Nat) (x1 : Int32) (x2 : Int32) (σ : KS), Cr p l e (rmd 0) s m args below meth c 3 D (kwX cI α) A vI 2 [(0, .ref (α 0)), (1, .int x1), (2, .int x2)] [] σ (f_X2_placeInRow_2 n x1 x2 σ) := by
  intro n
  induction n with
  | zero => intros; exact r_none
  | succ n ih =>
    intro x1 x2 σ
    rw [f_X2_placeInRow_2]
    refine r_iload_n X (j := 2) dX2_placeInRow_2 rfl rfl ?_
    refine r_aload_n X (j := 0) dX2_placeInRow_3 rfl rfl ?_
    refine r_get X (ci := 2) (q0 := 0) (v := .int (gv σ 0)) inX2 rfl rfl 12 (by decide) rfl fl_X2_108 dX2_placeInRow_4 ?_
    refine r_icmp_ge X (tgt := 28) dX2_placeInRow_7 (by decide) (fun _ => ?_) (fun _ => ?_)
    · refine r_iconst X (v := (-1)) dX2_placeInRow_28 (by decide) ?_
      exact r_ireturn X dX2_placeInRow_29
    · refine r_aload_n X (j := 0) dX2_placeInRow_10 rfl rfl ?_
      refine r_get X (ci := 2) (q0 := 0) (v := .ref (α 16)) inX2 rfl rfl 11 (by decide) rfl fl_X2_53 dX2_placeInRow_11 ?_
      refine r_iload_n X (j := 2) dX2_placeInRow_14 rfl rfl ?_
      refine r_iald X (q0 := 16) (t0 := 0) (kk := 16) rfl rfl dX2_placeInRow_15 ?_
      refine r_iload_n X (j := 1) dX2_placeInRow_16 rfl rfl ?_
      refine r_icmp_ne X (tgt := 22) dX2_placeInRow_17 (by decide) (fun _ => ?_) (fun _ => ?_)
      · refine r_iload_n X (j := 2) dX2_placeInRow_20 rfl rfl ?_
        exact r_ireturn X dX2_placeInRow_21
      · refine r_iinc X (j := 2) (v := (x2 + 1)) (lv' := [(2, .int (x2 + 1)), (0, .ref (α 0)), (1, .int x1)]) dX2_placeInRow_22 rfl rfl (by decide) rfl ?_
        refine r_goto X (tgt := 2) dX2_placeInRow_25 (by decide) ?_
        refine r_sub (lv' := [(0, .ref (α 0)), (1, .int x1), (2, .int (x2 + 1))]) [1, 2, 0] rfl ?_
        exact ih x1 (x2 + 1) σ
set_option maxRecDepth 100000 in
set_option maxHeartbeats 4000000 in
theorem c_X2_placeInRow (l : Launch) (D : va_G) (cI cZ : ClassId) (α : Nat → Nat) (A : Nat → Prop) (hJ : ∀ σ, va_D A ((kwX cI α) σ)) (x1 : Int32) (σ : KS) : Ct l D (tyA cI cZ) (kwX cI α) A yX2_placeInRow cX2_placeInRow 3 (some .int) 0 vI [.ref (α 0), .int x1] σ (m_X2_placeInRow x1 σ) := by
  refine Ct.of (own := RX2) hJ (by decide) rfl (Nat.le_of_ble_eq_true rfl) ?_
  intro p e s m args below meth c X
  refine r_sub (lv' := [(0, .ref (α 0)), (1, .int x1)]) [0, 1] rfl ?_
  unfold m_X2_placeInRow
  refine r_iconst X (v := 0) dX2_placeInRow_0 (by decide) ?_
  refine r_istore_n X (lv' := [(2, .int 0), (0, .ref (α 0)), (1, .int x1)]) dX2_placeInRow_1 rfl (by decide) rfl ?_
  refine r_sub (lv' := [(0, .ref (α 0)), (1, .int x1), (2, .int 0)]) [1, 2, 0] rfl ?_
  exact cl_X2_placeInRow_2 l D cI cZ α A hJ X FU x1 0 σ
set_option maxRecDepth 100000 in
set_option maxHeartbeats 4000000 in
theorem c_X2_refuse (l : Launch) (D : va_G) (cI cZ : ClassId) (α : Nat → Nat) (A : Nat → Prop) (hJ : ∀ σ, va_D A ((kwX cI α) σ)) (σ : KS) : Ct l D (tyA cI cZ) (kwX cI α) A yX2_refuse cX2_refuse 1 (some .int) 0 vI [.ref (α 0)] σ (m_X2_refuse σ) := by
  refine Ct.of (own := RX2) hJ (by decide) rfl (Nat.le_of_ble_eq_true rfl) ?_
  intro p e s m args below meth c X
  refine r_sub (lv' := [(0, .ref (α 0))]) [0] rfl ?_
  unfold m_X2_refuse
  refine r_aload_n X (j := 0) dX2_refuse_0 rfl rfl ?_
  refine r_dup X dX2_refuse_1 rfl ?_
  refine r_get X (ci := 2) (q0 := 0) (v := .int (gv σ 2)) inX2 rfl rfl 14 (by decide) rfl fl_X2_157 dX2_refuse_2 ?_
  refine r_iconst X (v := 1) dX2_refuse_5 (by decide) ?_
  refine r_iadd X dX2_refuse_6 ?_
  refine r_put X (ci := 2) (q0 := 0) (j := 2) inX2 rfl tyX2_ok nmX2 rfl 14 (by decide) rfl fl_X2_157 rfl (by decide +kernel) (Nat.le_of_ble_eq_true rfl) dX2_refuse_7 ?_
  refine r_bipush X (v := (-3)) dX2_refuse_10 (by decide) ?_
  exact r_ireturn X dX2_refuse_12
set_option maxRecDepth 100000 in
set_option maxHeartbeats 4000000 in
theorem c_X2_setWord (l : Launch) (D : va_G) (cI cZ : ClassId) (α : Nat → Nat) (A : Nat → Prop) (hJ : ∀ σ, va_D A ((kwX cI α) σ)) (x1 x2 : Int32) (σ : KS) : Ct l D (tyA cI cZ) (kwX cI α) A yX2_setWord cX2_setWord 3 none 0 vV [.ref (α 0), .int x1, .int x2] σ (m_X2_setWord x1 x2 σ) := by
  refine Ct.of (own := RX2) hJ (by decide) rfl (Nat.le_of_ble_eq_true rfl) ?_
  intro p e s m args below meth c X
  refine r_sub (lv' := [(0, .ref (α 0)), (1, .int x1), (2, .int x2)]) [0, 1, 2] rfl ?_
  unfold m_X2_setWord
  refine r_iload_n X (j := 1) dX2_setWord_0 rfl rfl ?_
  refine r_if_lt X (tgt := 20) dX2_setWord_1 (by decide) (fun _ => ?_) (fun _ => ?_)
  · exact r_return X dX2_setWord_20
  · refine r_iload_n X (j := 1) dX2_setWord_4 rfl rfl ?_
    refine r_aload_n X (j := 0) dX2_setWord_5 rfl rfl ?_
    refine r_get X (ci := 2) (q0 := 0) (v := .ref (α 8)) inX2 rfl rfl 3 (by decide) rfl fl_X2_28 dX2_setWord_6 ?_
    refine r_alen X (q0 := 8) (t0 := 0) (kk := 8) (v := 8192) rfl rfl (by decide) dX2_setWord_9 ?_
    refine r_icmp_ge X (tgt := 20) dX2_setWord_10 (by decide) (fun _ => ?_) (fun _ => ?_)
    · exact r_return X dX2_setWord_20
    · refine r_aload_n X (j := 0) dX2_setWord_13 rfl rfl ?_
      refine r_get X (ci := 2) (q0 := 0) (v := .ref (α 8)) inX2 rfl rfl 3 (by decide) rfl fl_X2_28 dX2_setWord_14 ?_
      refine r_iload_n X (j := 1) dX2_setWord_17 rfl rfl ?_
      refine r_iload_n X (j := 2) dX2_setWord_18 rfl rfl ?_
      refine r_iast X (q0 := 8) (t0 := 0) (kk := 8) rfl (fun _ => rfl) rfl dX2_setWord_19 ?_
      exact r_return X dX2_setWord_20
set_option maxRecDepth 100000 in
set_option maxHeartbeats 4000000 in
theorem c_X2_tableIndex (l : Launch) (D : va_G) (cI cZ : ClassId) (α : Nat → Nat) (A : Nat → Prop) (hJ : ∀ σ, va_D A ((kwX cI α) σ)) (x1 x2 : Int32) (σ : KS) : Ct l D (tyA cI cZ) (kwX cI α) A yX2_tableIndex cX2_tableIndex 3 (some .int) 0 vI [.ref (α 0), .int x1, .int x2] σ (m_X2_tableIndex x1 x2 σ) := by
  refine Ct.of (own := RX2) hJ (by decide) rfl (Nat.le_of_ble_eq_true rfl) ?_
  intro p e s m args below meth c X
  refine r_sub (lv' := [(0, .ref (α 0)), (1, .int x1), (2, .int x2)]) [0, 1, 2] rfl ?_
  unfold m_X2_tableIndex
  refine r_aload_n X (j := 0) dX2_tableIndex_0 rfl rfl ?_
  refine r_get X (ci := 2) (q0 := 0) (v := .ref (α 15)) inX2 rfl rfl 10 (by decide) rfl fl_X2_50 dX2_tableIndex_1 ?_
  refine r_iload_n X (j := 1) dX2_tableIndex_4 rfl rfl ?_
  refine r_iald X (q0 := 15) (t0 := 0) (kk := 15) rfl rfl dX2_tableIndex_5 ?_
  refine r_bipush X (v := 16) dX2_tableIndex_6 (by decide) ?_
  refine r_imul X dX2_tableIndex_8 ?_
  refine r_iload_n X (j := 2) dX2_tableIndex_9 rfl rfl ?_
  refine r_bipush X (v := 16) dX2_tableIndex_10 (by decide) ?_
  refine r_idiv X dX2_tableIndex_12 (by decide) ?_
  refine r_iadd X dX2_tableIndex_13 ?_
  exact r_ireturn X dX2_tableIndex_14
set_option maxRecDepth 100000 in
set_option maxHeartbeats 4000000 in
theorem c_X2_wordAt (l : Launch) (D : va_G) (cI cZ : ClassId) (α : Nat → Nat) (A : Nat → Prop) (hJ : ∀ σ, va_D A ((kwX cI α) σ)) (x1 : Int32) (σ : KS) : Ct l D (tyA cI cZ) (kwX cI α) A yX2_wordAt cX2_wordAt 2 (some .int) 0 vI [.ref (α 0), .int x1] σ (m_X2_wordAt x1 σ) := by
  refine Ct.of (own := RX2) hJ (by decide) rfl (Nat.le_of_ble_eq_true rfl) ?_
  intro p e s m args below meth c X
  refine r_sub (lv' := [(0, .ref (α 0)), (1, .int x1)]) [0, 1] rfl ?_
  unfold m_X2_wordAt
  refine r_iload_n X (j := 1) dX2_wordAt_0 rfl rfl ?_
  refine r_if_lt X (tgt := 22) dX2_wordAt_1 (by decide) (fun _ => ?_) (fun _ => ?_)
  · refine r_iconst X (v := 0) dX2_wordAt_22 (by decide) ?_
    exact r_ireturn X dX2_wordAt_23
  · refine r_iload_n X (j := 1) dX2_wordAt_4 rfl rfl ?_
    refine r_aload_n X (j := 0) dX2_wordAt_5 rfl rfl ?_
    refine r_get X (ci := 2) (q0 := 0) (v := .ref (α 8)) inX2 rfl rfl 3 (by decide) rfl fl_X2_28 dX2_wordAt_6 ?_
    refine r_alen X (q0 := 8) (t0 := 0) (kk := 8) (v := 8192) rfl rfl (by decide) dX2_wordAt_9 ?_
    refine r_icmp_ge X (tgt := 22) dX2_wordAt_10 (by decide) (fun _ => ?_) (fun _ => ?_)
    · refine r_iconst X (v := 0) dX2_wordAt_22 (by decide) ?_
      exact r_ireturn X dX2_wordAt_23
    · refine r_aload_n X (j := 0) dX2_wordAt_13 rfl rfl ?_
      refine r_get X (ci := 2) (q0 := 0) (v := .ref (α 8)) inX2 rfl rfl 3 (by decide) rfl fl_X2_28 dX2_wordAt_14 ?_
      refine r_iload_n X (j := 1) dX2_wordAt_17 rfl rfl ?_
      refine r_iald X (q0 := 8) (t0 := 0) (kk := 8) rfl rfl dX2_wordAt_18 ?_
      refine r_goto X (tgt := 23) dX2_wordAt_19 (by decide) ?_
      exact r_ireturn X dX2_wordAt_23
set_option maxRecDepth 100000 in
set_option maxHeartbeats 4000000 in
theorem c_X0_countOf (l : Launch) (D : va_G) (cI cZ : ClassId) (α : Nat → Nat) (A : Nat → Prop) (hJ : ∀ σ, va_D A ((kwX cI α) σ)) (x1 : Int32) (σ : KS) : Ct l D (tyA cI cZ) (kwX cI α) A yX0_countOf cX0_countOf 2 (some .int) 1 vI [.ref (α 1), .int x1] σ (m_X0_countOf x1 σ) := by
  refine Ct.of (own := RX0) hJ (by decide) rfl (Nat.le_of_ble_eq_true rfl) ?_
  intro p e s m args below meth c X
  refine r_sub (lv' := [(0, .ref (α 1)), (1, .int x1)]) [0, 1] rfl ?_
  unfold m_X0_countOf
  refine r_iload_n X (j := 1) dX0_countOf_0 rfl rfl ?_
  refine r_callNi X (n := 1) (As := [.int x1]) (st := []) (c_X2_isOrder l D cI cZ α A hJ x1 σ) X.2.2.1.1 sm_X2_isOrder ii_X2 co_X2_isOrder (by decide +kernel) ⟨Nat.le_of_ble_eq_true rfl, Nat.le_of_ble_eq_true rfl⟩ rfl rfl (Nat.le_of_ble_eq_true rfl) dX0_countOf_1 (fun r_1 σ_1 hc_1 => ?_)
  refine r_if_eq X (tgt := 16) dX0_countOf_4 (by decide) (fun _ => ?_) (fun _ => ?_)
  · refine r_iconst X (v := 0) dX0_countOf_16 (by decide) ?_
    exact r_ireturn X dX0_countOf_17
  · refine r_aload_n X (j := 0) dX0_countOf_7 rfl rfl ?_
    refine r_get X (ci := 0) (q0 := 1) (v := .ref (α 5)) inX0 rfl rfl 1 (by decide) rfl fl_X0_15 dX0_countOf_8 ?_
    refine r_iload_n X (j := 1) dX0_countOf_11 rfl rfl ?_
    refine r_iald X (q0 := 5) (t0 := 0) (kk := 5) rfl rfl dX0_countOf_12 ?_
    refine r_goto X (tgt := 17) dX0_countOf_13 (by decide) ?_
    exact r_ireturn X dX0_countOf_17
set_option maxRecDepth 100000 in
set_option maxHeartbeats 4000000 in
theorem c_X0_isFreeBlock (l : Launch) (D : va_G) (cI cZ : ClassId) (α : Nat → Nat) (A : Nat → Prop) (hJ : ∀ σ, va_D A ((kwX cI α) σ)) (x1 x2 : Int32) (σ : KS) : Ct l D (tyA cI cZ) (kwX cI α) A yX0_isFreeBlock cX0_isFreeBlock 3 (some .boolean) 1 vI [.ref (α 1), .int x1, .int x2] σ (m_X0_isFreeBlock x1 x2 σ) := by
  refine Ct.of (own := RX0) hJ (by decide) rfl (Nat.le_of_ble_eq_true rfl) ?_
  intro p e s m args below meth c X
  refine r_sub (lv' := [(0, .ref (α 1)), (1, .int x1), (2, .int x2)]) [0, 1, 2] rfl ?_
  unfold m_X0_isFreeBlock
  refine r_iload_n X (j := 1) dX0_isFreeBlock_0 rfl rfl ?_
  refine r_callNi X (n := 1) (As := [.int x1]) (st := []) (c_X2_isFrame l D cI cZ α A hJ x1 σ) X.2.2.1.2.1 sm_X2_isFrame ii_X2 co_X2_isFrame (by decide +kernel) ⟨Nat.le_of_ble_eq_true rfl, Nat.le_of_ble_eq_true rfl⟩ rfl rfl (Nat.le_of_ble_eq_true rfl) dX0_isFreeBlock_1 (fun r_1 σ_1 hc_1 => ?_)
  refine r_if_eq X (tgt := 21) dX0_isFreeBlock_4 (by decide) (fun _ => ?_) (fun _ => ?_)
  · refine r_iconst X (v := 0) dX0_isFreeBlock_21 (by decide) ?_
    exact r_zreturn X (by decide) dX0_isFreeBlock_22
  · refine r_aload_n X (j := 0) dX0_isFreeBlock_7 rfl rfl ?_
    refine r_get X (ci := 0) (q0 := 1) (v := .ref (α 4)) inX0 rfl rfl 0 (by decide) rfl fl_X0_9 dX0_isFreeBlock_8 ?_
    refine r_iload_n X (j := 1) dX0_isFreeBlock_11 rfl rfl ?_
    refine r_iald X (q0 := 4) (t0 := 0) (kk := 4) rfl rfl dX0_isFreeBlock_12 ?_
    refine r_iload_n X (j := 2) dX0_isFreeBlock_13 rfl rfl ?_
    refine r_icmp_ne X (tgt := 21) dX0_isFreeBlock_14 (by decide) (fun _ => ?_) (fun _ => ?_)
    · refine r_iconst X (v := 1) dX0_isFreeBlock_17 (by decide) ?_
      refine r_goto X (tgt := 22) dX0_isFreeBlock_18 (by decide) ?_
      exact r_zreturn X (by decide) dX0_isFreeBlock_22
    · refine r_iconst X (v := 0) dX0_isFreeBlock_21 (by decide) ?_
      exact r_zreturn X (by decide) dX0_isFreeBlock_22
set_option maxRecDepth 100000 in
set_option maxHeartbeats 4000000 in
theorem cl_X0_leastOf_20 (l : Launch) (D : va_G) (cI cZ : ClassId) (α : Nat → Nat) (A : Nat → Prop) (hJ : ∀ σ, va_D A ((kwX cI α) σ)) {p : Program} {e : Env} {s : State} {m : MethodId} {args : Array Value} {below : List Frame} {meth : Method} {c : Code} (X : CX p s m args meth c cX0_leastOf 3 RX0 D (tyA cI cZ) (kwX cI α) A (some .int)) : ∀ (n : Nat) (x1 : Int32) (x2 : Int32) (σ : KS), Cr p l e (rmd 1) s m args below meth c 3 D (kwX cI α) A vI 20 [(0, .ref (α 1)), (1, .int x1), (2, .int x2)] [] σ (f_X0_leastOf_20 n x1 x2 σ) := by
  intro n
  induction n with
  | zero => intros; exact r_none
  | succ n ih =>
    intro x1 x2 σ
    rw [f_X0_leastOf_20]
    refine r_iload_n X (j := 2) dX0_leastOf_20 rfl rfl ?_
    refine r_sipush X (v := 128) dX0_leastOf_21 (by decide) ?_
    refine r_icmp_ge X (tgt := 48) dX0_leastOf_24 (by decide) (fun _ => ?_) (fun _ => ?_)
    · refine r_iconst X (v := (-1)) dX0_leastOf_48 (by decide) ?_
      exact r_ireturn X dX0_leastOf_49
    · refine r_aload_n X (j := 0) dX0_leastOf_27 rfl rfl ?_
      refine r_get X (ci := 0) (q0 := 1) (v := .ref (α 4)) inX0 rfl rfl 0 (by decide) rfl fl_X0_9 dX0_leastOf_28 ?_
      refine r_iload_n X (j := 2) dX0_leastOf_31 rfl rfl ?_
      refine r_iald X (q0 := 4) (t0 := 0) (kk := 4) rfl rfl dX0_leastOf_32 ?_
      refine r_iload_n X (j := 1) dX0_leastOf_33 rfl rfl ?_
      refine r_icmp_ne X (tgt := 39) dX0_leastOf_34 (by decide) (fun _ => ?_) (fun _ => ?_)
      · refine r_iload_n X (j := 2) dX0_leastOf_37 rfl rfl ?_
        exact r_ireturn X dX0_leastOf_38
      · refine r_iload_n X (j := 2) dX0_leastOf_39 rfl rfl ?_
        refine r_iconst X (v := 1) dX0_leastOf_40 (by decide) ?_
        refine r_iload_n X (j := 1) dX0_leastOf_41 rfl rfl ?_
        refine r_ishl X dX0_leastOf_42 ?_
        refine r_iadd X dX0_leastOf_43 ?_
        refine r_istore_n X (lv' := [(2, .int (x2 + ((1 : Int32) <<< (x1 &&& 31)))), (0, .ref (α 1)), (1, .int x1)]) dX0_leastOf_44 rfl (by decide) rfl ?_
        refine r_goto X (tgt := 20) dX0_leastOf_45 (by decide) ?_
        refine r_sub (lv' := [(0, .ref (α 1)), (1, .int x1), (2, .int (x2 + ((1 : Int32) <<< (x1 &&& 31))))]) [1, 2, 0] rfl ?_
        exact ih x1 (x2 + ((1 : Int32) <<< (x1 &&& 31))) σ
set_option maxRecDepth 100000 in
set_option maxHeartbeats 4000000 in
theorem c_X0_leastOf (l : Launch) (D : va_G) (cI cZ : ClassId) (α : Nat → Nat) (A : Nat → Prop) (hJ : ∀ σ, va_D A ((kwX cI α) σ)) (x1 : Int32) (σ : KS) : Ct l D (tyA cI cZ) (kwX cI α) A yX0_leastOf cX0_leastOf 3 (some .int) 1 vI [.ref (α 1), .int x1] σ (m_X0_leastOf x1 σ) := by
  refine Ct.of (own := RX0) hJ (by decide) rfl (Nat.le_of_ble_eq_true rfl) ?_
  intro p e s m args below meth c X
  refine r_sub (lv' := [(0, .ref (α 1)), (1, .int x1)]) [0, 1] rfl ?_
  unfold m_X0_leastOf
  refine r_iload_n X (j := 1) dX0_leastOf_0 rfl rfl ?_
  refine r_callNi X (n := 1) (As := [.int x1]) (st := []) (c_X2_isOrder l D cI cZ α A hJ x1 σ) X.2.2.1.1 sm_X2_isOrder ii_X2 co_X2_isOrder (by decide +kernel) ⟨Nat.le_of_ble_eq_true rfl, Nat.le_of_ble_eq_true rfl⟩ rfl rfl (Nat.le_of_ble_eq_true rfl) dX0_leastOf_1 (fun r_1 σ_1 hc_1 => ?_)
  refine r_if_eq X (tgt := 16) dX0_leastOf_4 (by decide) (fun _ => ?_) (fun _ => ?_)
  · refine r_iconst X (v := (-1)) dX0_leastOf_16 (by decide) ?_
    exact r_ireturn X dX0_leastOf_17
  · refine r_aload_n X (j := 0) dX0_leastOf_7 rfl rfl ?_
    refine r_get X (ci := 0) (q0 := 1) (v := .ref (α 5)) inX0 rfl rfl 1 (by decide) rfl fl_X0_15 dX0_leastOf_8 ?_
    refine r_iload_n X (j := 1) dX0_leastOf_11 rfl rfl ?_
    refine r_iald X (q0 := 5) (t0 := 0) (kk := 5) rfl rfl dX0_leastOf_12 ?_
    refine r_if_ne X (tgt := 18) dX0_leastOf_13 (by decide) (fun _ => ?_) (fun _ => ?_)
    · refine r_iconst X (v := (-1)) dX0_leastOf_16 (by decide) ?_
      exact r_ireturn X dX0_leastOf_17
    · refine r_iconst X (v := 0) dX0_leastOf_18 (by decide) ?_
      refine r_istore_n X (lv' := [(2, .int 0), (0, .ref (α 1)), (1, .int x1)]) dX0_leastOf_19 rfl (by decide) rfl ?_
      refine r_sub (lv' := [(0, .ref (α 1)), (1, .int x1), (2, .int 0)]) [1, 2, 0] rfl ?_
      exact cl_X0_leastOf_20 l D cI cZ α A hJ X FU x1 0 σ_1
set_option maxRecDepth 100000 in
set_option maxHeartbeats 4000000 in
theorem c_X0_leaveOut (l : Launch) (D : va_G) (cI cZ : ClassId) (α : Nat → Nat) (A : Nat → Prop) (hJ : ∀ σ, va_D A ((kwX cI α) σ)) (x1 x2 : Int32) (σ : KS) : Ct l D (tyA cI cZ) (kwX cI α) A yX0_leaveOut cX0_leaveOut 3 none 1 vV [.ref (α 1), .int x1, .int x2] σ (m_X0_leaveOut x1 x2 σ) := by
  refine Ct.of (own := RX0) hJ (by decide) rfl (Nat.le_of_ble_eq_true rfl) ?_
  intro p e s m args below meth c X
  refine r_sub (lv' := [(0, .ref (α 1)), (1, .int x1), (2, .int x2)]) [0, 1, 2] rfl ?_
  unfold m_X0_leaveOut
  refine r_iload_n X (j := 1) dX0_leaveOut_0 rfl rfl ?_
  refine r_callNi X (n := 1) (As := [.int x1]) (st := []) (c_X2_isFrame l D cI cZ α A hJ x1 σ) X.2.2.1.2.1 sm_X2_isFrame ii_X2 co_X2_isFrame (by decide +kernel) ⟨Nat.le_of_ble_eq_true rfl, Nat.le_of_ble_eq_true rfl⟩ rfl rfl (Nat.le_of_ble_eq_true rfl) dX0_leaveOut_1 (fun r_1 σ_1 hc_1 => ?_)
  refine r_if_eq X (tgt := 31) dX0_leaveOut_4 (by decide) (fun _ => ?_) (fun _ => ?_)
  · exact r_return X dX0_leaveOut_31
  · refine r_iload_n X (j := 2) dX0_leaveOut_7 rfl rfl ?_
    refine r_callNi X (n := 1) (As := [.int x2]) (st := []) (c_X2_isOrder l D cI cZ α A hJ x2 σ_1) X.2.2.1.1 sm_X2_isOrder ii_X2 co_X2_isOrder (by decide +kernel) ⟨Nat.le_of_ble_eq_true rfl, Nat.le_of_ble_eq_true rfl⟩ rfl rfl (Nat.le_of_ble_eq_true rfl) dX0_leaveOut_8 (fun r_8 σ_8 hc_8 => ?_)
    refine r_if_eq X (tgt := 31) dX0_leaveOut_11 (by decide) (fun _ => ?_) (fun _ => ?_)
    · exact r_return X dX0_leaveOut_31
    · refine r_aload_n X (j := 0) dX0_leaveOut_14 rfl rfl ?_
      refine r_get X (ci := 0) (q0 := 1) (v := .ref (α 4)) inX0 rfl rfl 0 (by decide) rfl fl_X0_9 dX0_leaveOut_15 ?_
      refine r_iload_n X (j := 1) dX0_leaveOut_18 rfl rfl ?_
      refine r_iconst X (v := (-1)) dX0_leaveOut_19 (by decide) ?_
      refine r_iast X (q0 := 4) (t0 := 0) (kk := 4) rfl (fun _ => rfl) rfl dX0_leaveOut_20 ?_
      refine r_aload_n X (j := 0) dX0_leaveOut_21 rfl rfl ?_
      refine r_get X (ci := 0) (q0 := 1) (v := .ref (α 5)) inX0 rfl rfl 1 (by decide) rfl fl_X0_15 dX0_leaveOut_22 ?_
      refine r_iload_n X (j := 2) dX0_leaveOut_25 rfl rfl ?_
      refine r_dup2 X dX0_leaveOut_26 rfl rfl ?_
      refine r_iald X (q0 := 5) (t0 := 0) (kk := 5) rfl rfl dX0_leaveOut_27 ?_
      refine r_iconst X (v := 1) dX0_leaveOut_28 (by decide) ?_
      refine r_isub X dX0_leaveOut_29 ?_
      refine r_iast X (q0 := 5) (t0 := 0) (kk := 5) rfl (fun _ => rfl) rfl dX0_leaveOut_30 ?_
      exact r_return X dX0_leaveOut_31
set_option maxRecDepth 100000 in
set_option maxHeartbeats 4000000 in
theorem c_X0_putIn (l : Launch) (D : va_G) (cI cZ : ClassId) (α : Nat → Nat) (A : Nat → Prop) (hJ : ∀ σ, va_D A ((kwX cI α) σ)) (x1 x2 : Int32) (σ : KS) : Ct l D (tyA cI cZ) (kwX cI α) A yX0_putIn cX0_putIn 3 none 1 vV [.ref (α 1), .int x1, .int x2] σ (m_X0_putIn x1 x2 σ) := by
  refine Ct.of (own := RX0) hJ (by decide) rfl (Nat.le_of_ble_eq_true rfl) ?_
  intro p e s m args below meth c X
  refine r_sub (lv' := [(0, .ref (α 1)), (1, .int x1), (2, .int x2)]) [0, 1, 2] rfl ?_
  unfold m_X0_putIn
  refine r_iload_n X (j := 1) dX0_putIn_0 rfl rfl ?_
  refine r_callNi X (n := 1) (As := [.int x1]) (st := []) (c_X2_isFrame l D cI cZ α A hJ x1 σ) X.2.2.1.2.1 sm_X2_isFrame ii_X2 co_X2_isFrame (by decide +kernel) ⟨Nat.le_of_ble_eq_true rfl, Nat.le_of_ble_eq_true rfl⟩ rfl rfl (Nat.le_of_ble_eq_true rfl) dX0_putIn_1 (fun r_1 σ_1 hc_1 => ?_)
  refine r_if_eq X (tgt := 31) dX0_putIn_4 (by decide) (fun _ => ?_) (fun _ => ?_)
  · exact r_return X dX0_putIn_31
  · refine r_iload_n X (j := 2) dX0_putIn_7 rfl rfl ?_
    refine r_callNi X (n := 1) (As := [.int x2]) (st := []) (c_X2_isOrder l D cI cZ α A hJ x2 σ_1) X.2.2.1.1 sm_X2_isOrder ii_X2 co_X2_isOrder (by decide +kernel) ⟨Nat.le_of_ble_eq_true rfl, Nat.le_of_ble_eq_true rfl⟩ rfl rfl (Nat.le_of_ble_eq_true rfl) dX0_putIn_8 (fun r_8 σ_8 hc_8 => ?_)
    refine r_if_eq X (tgt := 31) dX0_putIn_11 (by decide) (fun _ => ?_) (fun _ => ?_)
    · exact r_return X dX0_putIn_31
    · refine r_aload_n X (j := 0) dX0_putIn_14 rfl rfl ?_
      refine r_get X (ci := 0) (q0 := 1) (v := .ref (α 4)) inX0 rfl rfl 0 (by decide) rfl fl_X0_9 dX0_putIn_15 ?_
      refine r_iload_n X (j := 1) dX0_putIn_18 rfl rfl ?_
      refine r_iload_n X (j := 2) dX0_putIn_19 rfl rfl ?_
      refine r_iast X (q0 := 4) (t0 := 0) (kk := 4) rfl (fun _ => rfl) rfl dX0_putIn_20 ?_
      refine r_aload_n X (j := 0) dX0_putIn_21 rfl rfl ?_
      refine r_get X (ci := 0) (q0 := 1) (v := .ref (α 5)) inX0 rfl rfl 1 (by decide) rfl fl_X0_15 dX0_putIn_22 ?_
      refine r_iload_n X (j := 2) dX0_putIn_25 rfl rfl ?_
      refine r_dup2 X dX0_putIn_26 rfl rfl ?_
      refine r_iald X (q0 := 5) (t0 := 0) (kk := 5) rfl rfl dX0_putIn_27 ?_
      refine r_iconst X (v := 1) dX0_putIn_28 (by decide) ?_
      refine r_iadd X dX0_putIn_29 ?_
      refine r_iast X (q0 := 5) (t0 := 0) (kk := 5) rfl (fun _ => rfl) rfl dX0_putIn_30 ?_
      exact r_return X dX0_putIn_31
set_option maxRecDepth 100000 in
set_option maxHeartbeats 4000000 in
theorem c_X1r_countIn (l : Launch) (D : va_G) (cI cZ : ClassId) (α : Nat → Nat) (A : Nat → Prop) (hJ : ∀ σ, va_D A ((kwX cI α) σ)) (x1 : Int32) (σ : KS) : Ct l D (tyA cI cZ) (kwX cI α) A yX1_countIn cX1_countIn 2 (some .int) 1 vI [.ref (α 2), .int x1] σ (m_X1r_countIn x1 σ) := by
  refine Ct.of (own := RX1) hJ (by decide) rfl (Nat.le_of_ble_eq_true rfl) ?_
  intro p e s m args below meth c X
  refine r_sub (lv' := [(0, .ref (α 2)), (1, .int x1)]) [0, 1] rfl ?_
  unfold m_X1r_countIn
  refine r_iload_n X (j := 1) dX1_countIn_0 rfl rfl ?_
  refine r_callNi X (n := 1) (As := [.int x1]) (st := []) (c_X2_isFrame l D cI cZ α A hJ x1 σ) X.2.2.1.2.2 sm_X2_isFrame ii_X2 co_X2_isFrame (by decide +kernel) ⟨Nat.le_of_ble_eq_true rfl, Nat.le_of_ble_eq_true rfl⟩ rfl rfl (Nat.le_of_ble_eq_true rfl) dX1_countIn_1 (fun r_1 σ_1 hc_1 => ?_)
  refine r_if_eq X (tgt := 19) dX1_countIn_4 (by decide) (fun _ => ?_) (fun _ => ?_)
  · refine r_iconst X (v := 0) dX1_countIn_19 (by decide) ?_
    exact r_ireturn X dX1_countIn_20
  · refine r_aload_n X (j := 0) dX1_countIn_7 rfl rfl ?_
    refine r_get X (ci := 1) (q0 := 2) (v := .ref (α 6)) inX1 rfl rfl 1 (by decide) rfl fl_X1_15 dX1_countIn_8 ?_
    refine r_iload_n X (j := 1) dX1_countIn_11 rfl rfl ?_
    refine r_iald X (q0 := 6) (t0 := 0) (kk := 6) rfl rfl dX1_countIn_12 ?_
    refine r_callSi X (n := 1) (As := [.int (rd σ_1 6 x1)]) (st := []) (c_J6_bitCount_0f7a4 l D cI cZ α A hJ (rd σ_1 6 x1) σ_1) ml_X1_23 sm_J6_bitCount_0f7a4 ii_J6 co_J6_bitCount_0f7a4 (by decide +kernel) ⟨Nat.le_of_ble_eq_true rfl, Nat.le_of_ble_eq_true rfl⟩ rfl rfl (Nat.le_of_ble_eq_true rfl) dX1_countIn_13 (fun r_13 σ_13 hc_13 => ?_)
    refine r_goto X (tgt := 20) dX1_countIn_16 (by decide) ?_
    exact r_ireturn X dX1_countIn_20
set_option maxRecDepth 100000 in
set_option maxHeartbeats 4000000 in
theorem c_X1t_countIn (l : Launch) (D : va_G) (cI cZ : ClassId) (α : Nat → Nat) (A : Nat → Prop) (hJ : ∀ σ, va_D A ((kwX cI α) σ)) (x1 : Int32) (σ : KS) : Ct l D (tyA cI cZ) (kwX cI α) A yX1_countIn cX1_countIn 2 (some .int) 1 vI [.ref (α 3), .int x1] σ (m_X1t_countIn x1 σ) := by
  refine Ct.of (own := RX1) hJ (by decide) rfl (Nat.le_of_ble_eq_true rfl) ?_
  intro p e s m args below meth c X
  refine r_sub (lv' := [(0, .ref (α 3)), (1, .int x1)]) [0, 1] rfl ?_
  unfold m_X1t_countIn
  refine r_iload_n X (j := 1) dX1_countIn_0 rfl rfl ?_
  refine r_callNi X (n := 1) (As := [.int x1]) (st := []) (c_X2_isFrame l D cI cZ α A hJ x1 σ) X.2.2.1.2.2 sm_X2_isFrame ii_X2 co_X2_isFrame (by decide +kernel) ⟨Nat.le_of_ble_eq_true rfl, Nat.le_of_ble_eq_true rfl⟩ rfl rfl (Nat.le_of_ble_eq_true rfl) dX1_countIn_1 (fun r_1 σ_1 hc_1 => ?_)
  refine r_if_eq X (tgt := 19) dX1_countIn_4 (by decide) (fun _ => ?_) (fun _ => ?_)
  · refine r_iconst X (v := 0) dX1_countIn_19 (by decide) ?_
    exact r_ireturn X dX1_countIn_20
  · refine r_aload_n X (j := 0) dX1_countIn_7 rfl rfl ?_
    refine r_get X (ci := 1) (q0 := 3) (v := .ref (α 7)) inX1 rfl rfl 1 (by decide) rfl fl_X1_15 dX1_countIn_8 ?_
    refine r_iload_n X (j := 1) dX1_countIn_11 rfl rfl ?_
    refine r_iald X (q0 := 7) (t0 := 0) (kk := 7) rfl rfl dX1_countIn_12 ?_
    refine r_callSi X (n := 1) (As := [.int (rd σ_1 7 x1)]) (st := []) (c_J6_bitCount_0f7a4 l D cI cZ α A hJ (rd σ_1 7 x1) σ_1) ml_X1_23 sm_J6_bitCount_0f7a4 ii_J6 co_J6_bitCount_0f7a4 (by decide +kernel) ⟨Nat.le_of_ble_eq_true rfl, Nat.le_of_ble_eq_true rfl⟩ rfl rfl (Nat.le_of_ble_eq_true rfl) dX1_countIn_13 (fun r_13 σ_13 hc_13 => ?_)
    refine r_goto X (tgt := 20) dX1_countIn_16 (by decide) ?_
    exact r_ireturn X dX1_countIn_20
