set_option maxRecDepth 100000 in
set_option maxHeartbeats 4000000 in
theorem cl_X1t_takePlace_30 (l : Launch) (D : va_G) (cI cZ : ClassId) (α : Nat → Nat) (A : Nat → Prop) (hJ : ∀ σ, va_D A ((kwX cI α) σ)) {p : Program} {e : Env} {s : State} {m : MethodId} {args : Array Value} {below : List Frame} {meth : Method} {c : Code} (X : CX p s m args meth c cX1_takePlace 3 RX1 D (tyA cI cZ) (kwX cI α) A (some .int)) : ∀ (n : Nat) (x1 : Int32) (x2 : Int32) (σ : KS), Cr p l e (rmd 3) s m args below meth c 3 D (kwX cI α) A vI 30 [(0, .ref (α 3)), (1, .int x1), (2, .int x2)] [] σ (f_X1t_takePlace_30 n x1 x2 σ) := by
  intro n
  induction n with
  | zero => intros; exact r_none
  | succ n ih =>
    intro x1 x2 σ
    rw [f_X1t_takePlace_30]
    refine r_iload_n X (j := 2) dX1_takePlace_30 rfl rfl ?_
    refine r_iconst X (v := 4) dX1_takePlace_31 (by decide) ?_
    refine r_icmp_ge X (tgt := 72) dX1_takePlace_32 (by decide) (fun _ => ?_) (fun _ => ?_)
    · refine r_iconst X (v := (-1)) dX1_takePlace_72 (by decide) ?_
      exact r_ireturn X dX1_takePlace_73
    · refine r_aload_n X (j := 0) dX1_takePlace_35 rfl rfl ?_
      refine r_get X (ci := 1) (q0 := 3) (v := .ref (α 7)) inX1 rfl rfl 1 (by decide) rfl fl_X1_15 dX1_takePlace_36 ?_
      refine r_iload_n X (j := 1) dX1_takePlace_39 rfl rfl ?_
      refine r_iald X (q0 := 7) (t0 := 0) (kk := 7) rfl rfl dX1_takePlace_40 ?_
      refine r_iconst X (v := 1) dX1_takePlace_41 (by decide) ?_
      refine r_iload_n X (j := 2) dX1_takePlace_42 rfl rfl ?_
      refine r_ishl X dX1_takePlace_43 ?_
      refine r_iand X dX1_takePlace_44 ?_
      refine r_if_ne X (tgt := 66) dX1_takePlace_45 (by decide) (fun _ => ?_) (fun _ => ?_)
      · refine r_aload_n X (j := 0) dX1_takePlace_48 rfl rfl ?_
        refine r_get X (ci := 1) (q0 := 3) (v := .ref (α 7)) inX1 rfl rfl 1 (by decide) rfl fl_X1_15 dX1_takePlace_49 ?_
        refine r_iload_n X (j := 1) dX1_takePlace_52 rfl rfl ?_
        refine r_dup2 X dX1_takePlace_53 rfl rfl ?_
        refine r_iald X (q0 := 7) (t0 := 0) (kk := 7) rfl rfl dX1_takePlace_54 ?_
        refine r_iconst X (v := 1) dX1_takePlace_55 (by decide) ?_
        refine r_iload_n X (j := 2) dX1_takePlace_56 rfl rfl ?_
        refine r_ishl X dX1_takePlace_57 ?_
        refine r_ior X dX1_takePlace_58 ?_
        refine r_iast X (q0 := 7) (t0 := 0) (kk := 7) rfl (fun _ => rfl) rfl dX1_takePlace_59 ?_
        refine r_iload_n X (j := 1) dX1_takePlace_60 rfl rfl ?_
        refine r_iconst X (v := 4) dX1_takePlace_61 (by decide) ?_
        refine r_imul X dX1_takePlace_62 ?_
        refine r_iload_n X (j := 2) dX1_takePlace_63 rfl rfl ?_
        refine r_iadd X dX1_takePlace_64 ?_
        exact r_ireturn X dX1_takePlace_65
      · refine r_iinc X (j := 2) (v := (x2 + 1)) (lv' := [(2, .int (x2 + 1)), (0, .ref (α 3)), (1, .int x1)]) dX1_takePlace_66 rfl rfl (by decide) rfl ?_
        refine r_goto X (tgt := 30) dX1_takePlace_69 (by decide) ?_
        refine r_sub (lv' := [(0, .ref (α 3)), (1, .int x1), (2, .int (x2 + 1))]) [1, 2, 0] rfl ?_
        exact ih x1 (x2 + 1) σ
set_option maxRecDepth 100000 in
set_option maxHeartbeats 4000000 in
theorem c_X1t_takePlace (l : Launch) (D : va_G) (cI cZ : ClassId) (α : Nat → Nat) (A : Nat → Prop) (hJ : ∀ σ, va_D A ((kwX cI α) σ)) (σ : KS) : Ct l D (tyA cI cZ) (kwX cI α) A yX1_takePlace cX1_takePlace 3 (some .int) 3 vI [.ref (α 3)] σ (m_X1t_takePlace σ) := by
  refine Ct.of (own := RX1) hJ (by decide) rfl (Nat.le_of_ble_eq_true rfl) ?_
  intro p e s m args below meth c X
  refine r_sub (lv' := [(0, .ref (α 3))]) [0] rfl ?_
  unfold m_X1t_takePlace
  refine r_aload_n X (j := 0) dX1_takePlace_0 rfl rfl ?_
  refine r_callVi X (q0 := 3) (ci := 1) (n := 0) (As := []) (st := []) (c_X1t_leastWithRoom l D cI cZ α A hJ σ) ml_X1_29 im_X1_leastWithRoom se_X1_leastWithRoom ii_X1 co_X1_leastWithRoom (by decide +kernel) ⟨Nat.le_of_ble_eq_true rfl, Nat.le_of_ble_eq_true rfl⟩ rfl rfl rfl rfl (Nat.le_of_ble_eq_true rfl) dX1_takePlace_1 (fun r_1 σ_1 hc_1 => ?_)
  refine r_istore_n X (lv' := [(1, .int r_1), (0, .ref (α 3))]) dX1_takePlace_4 rfl (by decide) rfl ?_
  refine r_iload_n X (j := 0) dX1_takePlace_5 rfl rfl ?_
  refine r_iconst X (v := (-1)) dX1_takePlace_6 (by decide) ?_
  refine r_icmp_ne X (tgt := 19) dX1_takePlace_7 (by decide) (fun _ => ?_) (fun _ => ?_)
  · refine r_aload_n X (j := 1) dX1_takePlace_10 rfl rfl ?_
    refine r_get X (ci := 1) (q0 := 3) (v := .ref (α 1)) inX1 rfl rfl 0 (by decide) rfl fl_X1_9 dX1_takePlace_11 ?_
    refine r_iconst X (v := 0) dX1_takePlace_14 (by decide) ?_
    refine r_callVi X (q0 := 1) (ci := 0) (n := 1) (As := [.int 0]) (st := []) (c_X0_takeBlock l D cI cZ α A hJ 0 σ_1) ml_X1_33 im_X0_takeBlock se_X0_takeBlock ii_X0 co_X0_takeBlock (by decide +kernel) ⟨Nat.le_of_ble_eq_true rfl, Nat.le_of_ble_eq_true rfl⟩ rfl rfl rfl rfl (Nat.le_of_ble_eq_true rfl) dX1_takePlace_15 (fun r_15 σ_15 hc_15 => ?_)
    refine r_istore_n X (lv' := [(1, .int r_15), (0, .ref (α 3))]) dX1_takePlace_18 rfl (by decide) rfl ?_
    refine r_iload_n X (j := 0) dX1_takePlace_19 rfl rfl ?_
    refine r_callNi X (n := 1) (As := [.int r_15]) (st := []) (c_X2_isFrame l D cI cZ α A hJ r_15 σ_15) X.2.2.1.2.2 sm_X2_isFrame ii_X2 co_X2_isFrame (by decide +kernel) ⟨Nat.le_of_ble_eq_true rfl, Nat.le_of_ble_eq_true rfl⟩ rfl rfl (Nat.le_of_ble_eq_true rfl) dX1_takePlace_20 (fun r_20 σ_20 hc_20 => ?_)
    refine r_if_ne X (tgt := 28) dX1_takePlace_23 (by decide) (fun _ => ?_) (fun _ => ?_)
    · refine r_iconst X (v := (-1)) dX1_takePlace_26 (by decide) ?_
      exact r_ireturn X dX1_takePlace_27
    · refine r_iconst X (v := 0) dX1_takePlace_28 (by decide) ?_
      refine r_istore_n X (lv' := [(2, .int 0), (1, .int r_15), (0, .ref (α 3))]) dX1_takePlace_29 rfl (by decide) rfl ?_
      refine r_sub (lv' := [(0, .ref (α 3)), (1, .int r_15), (2, .int 0)]) [2, 1, 0] rfl ?_
      exact cl_X1t_takePlace_30 l D cI cZ α A hJ X FU r_15 0 σ_20
  · refine r_iload_n X (j := 0) dX1_takePlace_19 rfl rfl ?_
    refine r_callNi X (n := 1) (As := [.int r_1]) (st := []) (c_X2_isFrame l D cI cZ α A hJ r_1 σ_1) X.2.2.1.2.2 sm_X2_isFrame ii_X2 co_X2_isFrame (by decide +kernel) ⟨Nat.le_of_ble_eq_true rfl, Nat.le_of_ble_eq_true rfl⟩ rfl rfl (Nat.le_of_ble_eq_true rfl) dX1_takePlace_20 (fun r_20 σ_20 hc_20 => ?_)
    refine r_if_ne X (tgt := 28) dX1_takePlace_23 (by decide) (fun _ => ?_) (fun _ => ?_)
    · refine r_iconst X (v := (-1)) dX1_takePlace_26 (by decide) ?_
      exact r_ireturn X dX1_takePlace_27
    · refine r_iconst X (v := 0) dX1_takePlace_28 (by decide) ?_
      refine r_istore_n X (lv' := [(2, .int 0), (1, .int r_1), (0, .ref (α 3))]) dX1_takePlace_29 rfl (by decide) rfl ?_
      refine r_sub (lv' := [(0, .ref (α 3)), (1, .int r_1), (2, .int 0)]) [2, 1, 0] rfl ?_
      exact cl_X1t_takePlace_30 l D cI cZ α A hJ X FU r_1 0 σ_20
set_option maxRecDepth 100000 in
set_option maxHeartbeats 4000000 in
theorem c_X2_about (l : Launch) (D : va_G) (cI cZ : ClassId) (α : Nat → Nat) (A : Nat → Prop) (hJ : ∀ σ, va_D A ((kwX cI α) σ)) (x1 x2 : Int32) (σ : KS) : Ct l D (tyA cI cZ) (kwX cI α) A yX2_about cX2_about 3 (some .int) 3 vI [.ref (α 0), .int x1, .int x2] σ (m_X2_about x1 x2 σ) := by
  refine Ct.of (own := RX2) hJ (by decide) rfl (Nat.le_of_ble_eq_true rfl) ?_
  intro p e s m args below meth c X
  refine r_sub (lv' := [(0, .ref (α 0)), (1, .int x1), (2, .int x2)]) [0, 1, 2] rfl ?_
  unfold m_X2_about
  refine r_iload_n X (j := 1) dX2_about_0 rfl rfl ?_
  refine r_callSi X (n := 1) (As := [.int x1]) (st := []) (c_X2_isFrame l D cI cZ α A hJ x1 σ) ml_X2_124 sm_X2_isFrame ii_X2 co_X2_isFrame (by decide +kernel) ⟨Nat.le_of_ble_eq_true rfl, Nat.le_of_ble_eq_true rfl⟩ rfl rfl (Nat.le_of_ble_eq_true rfl) dX2_about_1 (fun r_1 σ_1 hc_1 => ?_)
  refine r_if_ne X (tgt := 10) dX2_about_4 (by decide) (fun _ => ?_) (fun _ => ?_)
  · refine r_bipush X (v := (-2)) dX2_about_7 (by decide) ?_
    exact r_ireturn X dX2_about_9
  · refine r_iload_n X (j := 2) dX2_about_10 rfl rfl ?_
    refine r_ite (fun hs0 => ?_) (fun hs0 => ?_)
    · refine r_look X (off := 25) (tgt := 36) dX2_about_11 (by decide) (by rw [hs0]; decide) (by decide) ?_
      refine r_aload_n X (j := 0) dX2_about_36 rfl rfl ?_
      refine r_iload_n X (j := 1) dX2_about_37 rfl rfl ?_
      refine r_callVi X (q0 := 0) (ci := 2) (n := 1) (As := [.int x1]) (st := []) (c_X2_kindOf l D cI cZ α A hJ x1 σ_1) ml_X2_139 im_X2_kindOf se_X2_kindOf ii_X2 co_X2_kindOf (by decide +kernel) ⟨Nat.le_of_ble_eq_true rfl, Nat.le_of_ble_eq_true rfl⟩ rfl rfl rfl rfl (Nat.le_of_ble_eq_true rfl) dX2_about_38 (fun r_38 σ_38 hc_38 => ?_)
      exact r_ireturn X dX2_about_41
    · refine r_ite (fun hs1 => ?_) (fun hs1 => ?_)
      · refine r_look X (off := 31) (tgt := 42) dX2_about_11 (by decide) (by rw [hs1]; decide) (by decide) ?_
        refine r_aload_n X (j := 0) dX2_about_42 rfl rfl ?_
        refine r_get X (ci := 2) (q0 := 0) (v := .ref (α 2)) inX2 rfl rfl 1 (by decide) rfl fl_X2_21 dX2_about_43 ?_
        refine r_iload_n X (j := 1) dX2_about_46 rfl rfl ?_
        refine r_callVi X (q0 := 2) (ci := 1) (n := 1) (As := [.int x1]) (st := []) (c_X1r_countIn l D cI cZ α A hJ x1 σ_1) ml_X2_142 im_X1_countIn se_X1_countIn ii_X1 co_X1_countIn (by decide +kernel) ⟨Nat.le_of_ble_eq_true rfl, Nat.le_of_ble_eq_true rfl⟩ rfl rfl rfl rfl (Nat.le_of_ble_eq_true rfl) dX2_about_47 (fun r_47 σ_47 hc_47 => ?_)
        refine r_aload_n X (j := 0) dX2_about_50 rfl rfl ?_
        refine r_get X (ci := 2) (q0 := 0) (v := .ref (α 3)) inX2 rfl rfl 2 (by decide) rfl fl_X2_25 dX2_about_51 ?_
        refine r_iload_n X (j := 1) dX2_about_54 rfl rfl ?_
        refine r_callVi X (q0 := 3) (ci := 1) (n := 1) (As := [.int x1]) (st := [.int r_47]) (c_X1t_countIn l D cI cZ α A hJ x1 σ_47) ml_X2_142 im_X1_countIn se_X1_countIn ii_X1 co_X1_countIn (by decide +kernel) ⟨Nat.le_of_ble_eq_true rfl, Nat.le_of_ble_eq_true rfl⟩ rfl rfl rfl rfl (Nat.le_of_ble_eq_true rfl) dX2_about_55 (fun r_55 σ_55 hc_55 => ?_)
        refine r_iadd X dX2_about_58 ?_
        refine r_aload_n X (j := 0) dX2_about_59 rfl rfl ?_
        refine r_get X (ci := 2) (q0 := 0) (v := .ref (α 9)) inX2 rfl rfl 4 (by decide) rfl fl_X2_32 dX2_about_60 ?_
        refine r_iload_n X (j := 1) dX2_about_63 rfl rfl ?_
        refine r_iald X (q0 := 9) (t0 := 0) (kk := 9) rfl rfl dX2_about_64 ?_
        refine r_iadd X dX2_about_65 ?_
        exact r_ireturn X dX2_about_66
      · refine r_look X (off := 56) (tgt := 67) dX2_about_11 (by decide) (by show Op.lookupswitch.offset [(0, 25), (1, 31)] _ _ = _; rw [lv_osw hs0 (by decide), lv_osw hs1 (by decide)]; rfl) (by decide) ?_
        refine r_bipush X (v := (-2)) dX2_about_67 (by decide) ?_
        exact r_ireturn X dX2_about_69
set_option maxRecDepth 100000 in
set_option maxHeartbeats 4000000 in
theorem c_X2_block (l : Launch) (D : va_G) (cI cZ : ClassId) (α : Nat → Nat) (A : Nat → Prop) (hJ : ∀ σ, va_D A ((kwX cI α) σ)) (x1 : Int32) (σ : KS) : Ct l D (tyA cI cZ) (kwX cI α) A yX2_block cX2_block 3 (some .int) 3 vI [.ref (α 0), .int x1] σ (m_X2_block x1 σ) := by
  refine Ct.of (own := RX2) hJ (by decide) rfl (Nat.le_of_ble_eq_true rfl) ?_
  intro p e s m args below meth c X
  refine r_sub (lv' := [(0, .ref (α 0)), (1, .int x1)]) [0, 1] rfl ?_
  unfold m_X2_block
  refine r_iload_n X (j := 1) dX2_block_0 rfl rfl ?_
  refine r_callSi X (n := 1) (As := [.int x1]) (st := []) (c_X2_isOrder l D cI cZ α A hJ x1 σ) ml_X2_118 sm_X2_isOrder ii_X2 co_X2_isOrder (by decide +kernel) ⟨Nat.le_of_ble_eq_true rfl, Nat.le_of_ble_eq_true rfl⟩ rfl rfl (Nat.le_of_ble_eq_true rfl) dX2_block_1 (fun r_1 σ_1 hc_1 => ?_)
  refine r_if_ne X (tgt := 10) dX2_block_4 (by decide) (fun _ => ?_) (fun _ => ?_)
  · refine r_bipush X (v := (-2)) dX2_block_7 (by decide) ?_
    exact r_ireturn X dX2_block_9
  · refine r_aload_n X (j := 0) dX2_block_10 rfl rfl ?_
    refine r_get X (ci := 2) (q0 := 0) (v := .ref (α 1)) inX2 rfl rfl 0 (by decide) rfl fl_X2_10 dX2_block_11 ?_
    refine r_iload_n X (j := 1) dX2_block_14 rfl rfl ?_
    refine r_callVi X (q0 := 1) (ci := 0) (n := 1) (As := [.int x1]) (st := []) (c_X0_takeBlock l D cI cZ α A hJ x1 σ_1) ml_X2_121 im_X0_takeBlock se_X0_takeBlock ii_X0 co_X0_takeBlock (by decide +kernel) ⟨Nat.le_of_ble_eq_true rfl, Nat.le_of_ble_eq_true rfl⟩ rfl rfl rfl rfl (Nat.le_of_ble_eq_true rfl) dX2_block_15 (fun r_15 σ_15 hc_15 => ?_)
    refine r_istore_n X (lv' := [(2, .int r_15), (0, .ref (α 0)), (1, .int x1)]) dX2_block_18 rfl (by decide) rfl ?_
    refine r_iload_n X (j := 0) dX2_block_19 rfl rfl ?_
    refine r_callSi X (n := 1) (As := [.int r_15]) (st := []) (c_X2_isFrame l D cI cZ α A hJ r_15 σ_15) ml_X2_124 sm_X2_isFrame ii_X2 co_X2_isFrame (by decide +kernel) ⟨Nat.le_of_ble_eq_true rfl, Nat.le_of_ble_eq_true rfl⟩ rfl rfl (Nat.le_of_ble_eq_true rfl) dX2_block_20 (fun r_20 σ_20 hc_20 => ?_)
    refine r_if_ne X (tgt := 31) dX2_block_23 (by decide) (fun _ => ?_) (fun _ => ?_)
    · refine r_aload_n X (j := 1) dX2_block_26 rfl rfl ?_
      refine r_callVi X (q0 := 0) (ci := 2) (n := 0) (As := []) (st := []) (c_X2_refuse l D cI cZ α A hJ σ_20) ml_X2_72 im_X2_refuse se_X2_refuse ii_X2 co_X2_refuse (by decide +kernel) ⟨Nat.le_of_ble_eq_true rfl, Nat.le_of_ble_eq_true rfl⟩ rfl rfl rfl rfl (Nat.le_of_ble_eq_true rfl) dX2_block_27 (fun r_27 σ_27 hc_27 => ?_)
      exact r_ireturn X dX2_block_30
    · refine r_aload_n X (j := 1) dX2_block_31 rfl rfl ?_
      refine r_get X (ci := 2) (q0 := 0) (v := .ref (α 10)) inX2 rfl rfl 5 (by decide) rfl fl_X2_35 dX2_block_32 ?_
      refine r_iload_n X (j := 0) dX2_block_35 rfl rfl ?_
      refine r_iload_n X (j := 2) dX2_block_36 rfl rfl ?_
      refine r_iast X (q0 := 10) (t0 := 0) (kk := 10) rfl (fun _ => rfl) rfl dX2_block_37 ?_
      refine r_iload_n X (j := 0) dX2_block_38 rfl rfl ?_
      exact r_ireturn X dX2_block_39
set_option maxRecDepth 100000 in
set_option maxHeartbeats 4000000 in
theorem c_X2_dropPageFrame (l : Launch) (D : va_G) (cI cZ : ClassId) (α : Nat → Nat) (A : Nat → Prop) (hJ : ∀ σ, va_D A ((kwX cI α) σ)) (x1 : Int32) (σ : KS) : Ct l D (tyA cI cZ) (kwX cI α) A yX2_dropPageFrame cX2_dropPageFrame 2 none 3 vV [.ref (α 0), .int x1] σ (m_X2_dropPageFrame x1 σ) := by
  refine Ct.of (own := RX2) hJ (by decide) rfl (Nat.le_of_ble_eq_true rfl) ?_
  intro p e s m args below meth c X
  refine r_sub (lv' := [(0, .ref (α 0)), (1, .int x1)]) [0, 1] rfl ?_
  unfold m_X2_dropPageFrame
  refine r_iload_n X (j := 1) dX2_dropPageFrame_0 rfl rfl ?_
  refine r_callSi X (n := 1) (As := [.int x1]) (st := []) (c_X2_isFrame l D cI cZ α A hJ x1 σ) ml_X2_124 sm_X2_isFrame ii_X2 co_X2_isFrame (by decide +kernel) ⟨Nat.le_of_ble_eq_true rfl, Nat.le_of_ble_eq_true rfl⟩ rfl rfl (Nat.le_of_ble_eq_true rfl) dX2_dropPageFrame_1 (fun r_1 σ_1 hc_1 => ?_)
  refine r_if_ne X (tgt := 8) dX2_dropPageFrame_4 (by decide) (fun _ => ?_) (fun _ => ?_)
  · exact r_return X dX2_dropPageFrame_7
  · refine r_aload_n X (j := 0) dX2_dropPageFrame_8 rfl rfl ?_
    refine r_get X (ci := 2) (q0 := 0) (v := .ref (α 9)) inX2 rfl rfl 4 (by decide) rfl fl_X2_32 dX2_dropPageFrame_9 ?_
    refine r_iload_n X (j := 1) dX2_dropPageFrame_12 rfl rfl ?_
    refine r_dup2 X dX2_dropPageFrame_13 rfl rfl ?_
    refine r_iald X (q0 := 9) (t0 := 0) (kk := 9) rfl rfl dX2_dropPageFrame_14 ?_
    refine r_iconst X (v := 1) dX2_dropPageFrame_15 (by decide) ?_
    refine r_isub X dX2_dropPageFrame_16 ?_
    refine r_iast X (q0 := 9) (t0 := 0) (kk := 9) rfl (fun _ => rfl) rfl dX2_dropPageFrame_17 ?_
    refine r_aload_n X (j := 0) dX2_dropPageFrame_18 rfl rfl ?_
    refine r_get X (ci := 2) (q0 := 0) (v := .ref (α 9)) inX2 rfl rfl 4 (by decide) rfl fl_X2_32 dX2_dropPageFrame_19 ?_
    refine r_iload_n X (j := 1) dX2_dropPageFrame_22 rfl rfl ?_
    refine r_iald X (q0 := 9) (t0 := 0) (kk := 9) rfl rfl dX2_dropPageFrame_23 ?_
    refine r_if_ne X (tgt := 36) dX2_dropPageFrame_24 (by decide) (fun _ => ?_) (fun _ => ?_)
    · refine r_aload_n X (j := 0) dX2_dropPageFrame_27 rfl rfl ?_
      refine r_get X (ci := 2) (q0 := 0) (v := .ref (α 1)) inX2 rfl rfl 0 (by decide) rfl fl_X2_10 dX2_dropPageFrame_28 ?_
      refine r_iload_n X (j := 1) dX2_dropPageFrame_31 rfl rfl ?_
      refine r_iconst X (v := 0) dX2_dropPageFrame_32 (by decide) ?_
      refine r_callVv X (q0 := 1) (ci := 0) (n := 2) (As := [.int x1, .int 0]) (st := []) (c_X0_giveBlock l D cI cZ α A hJ x1 0 (wr σ_1 9 x1 ((rd σ_1 9 x1) - 1))) ml_X2_127 im_X0_giveBlock se_X0_giveBlock ii_X0 co_X0_giveBlock (by decide +kernel) ⟨Nat.le_of_ble_eq_true rfl, Nat.le_of_ble_eq_true rfl⟩ rfl rfl rfl rfl (Nat.le_of_ble_eq_true rfl) dX2_dropPageFrame_33 (fun r_33 σ_33 hc_33 => ?_)
      exact r_return X dX2_dropPageFrame_36
    · exact r_return X dX2_dropPageFrame_36
set_option maxRecDepth 100000 in
set_option maxHeartbeats 4000000 in
theorem c_X2_frameOfPage (l : Launch) (D : va_G) (cI cZ : ClassId) (α : Nat → Nat) (A : Nat → Prop) (hJ : ∀ σ, va_D A ((kwX cI α) σ)) (x1 x2 : Int32) (σ : KS) : Ct l D (tyA cI cZ) (kwX cI α) A yX2_frameOfPage cX2_frameOfPage 3 (some .int) 3 vI [.ref (α 0), .int x1, .int x2] σ (m_X2_frameOfPage x1 x2 σ) := by
  refine Ct.of (own := RX2) hJ (by decide) rfl (Nat.le_of_ble_eq_true rfl) ?_
  intro p e s m args below meth c X
  refine r_sub (lv' := [(0, .ref (α 0)), (1, .int x1), (2, .int x2)]) [0, 1, 2] rfl ?_
  unfold m_X2_frameOfPage
  refine r_aload_n X (j := 0) dX2_frameOfPage_0 rfl rfl ?_
  refine r_iload_n X (j := 1) dX2_frameOfPage_1 rfl rfl ?_
  refine r_iload_n X (j := 2) dX2_frameOfPage_2 rfl rfl ?_
  refine r_callVi X (q0 := 0) (ci := 2) (n := 2) (As := [.int x1, .int x2]) (st := []) (c_X2_hasPage l D cI cZ α A hJ x1 x2 σ) ml_X2_79 im_X2_hasPage se_X2_hasPage ii_X2 co_X2_hasPage (by decide +kernel) ⟨Nat.le_of_ble_eq_true rfl, Nat.le_of_ble_eq_true rfl⟩ rfl rfl rfl rfl (Nat.le_of_ble_eq_true rfl) dX2_frameOfPage_3 (fun r_3 σ_3 hc_3 => ?_)
  refine r_if_eq X (tgt := 22) dX2_frameOfPage_6 (by decide) (fun _ => ?_) (fun _ => ?_)
  · refine r_iconst X (v := (-1)) dX2_frameOfPage_22 (by decide) ?_
    exact r_ireturn X dX2_frameOfPage_23
  · refine r_aload_n X (j := 0) dX2_frameOfPage_9 rfl rfl ?_
    refine r_aload_n X (j := 0) dX2_frameOfPage_10 rfl rfl ?_
    refine r_iload_n X (j := 1) dX2_frameOfPage_11 rfl rfl ?_
    refine r_iload_n X (j := 2) dX2_frameOfPage_12 rfl rfl ?_
    refine r_callVi X (q0 := 0) (ci := 2) (n := 2) (As := [.int x1, .int x2]) (st := [.ref (α 0)]) (c_X2_pageIndex l D cI cZ α A hJ x1 x2 σ_3) ml_X2_181 im_X2_pageIndex se_X2_pageIndex ii_X2 co_X2_pageIndex (by decide +kernel) ⟨Nat.le_of_ble_eq_true rfl, Nat.le_of_ble_eq_true rfl⟩ rfl rfl rfl rfl (Nat.le_of_ble_eq_true rfl) dX2_frameOfPage_13 (fun r_13 σ_13 hc_13 => ?_)
    refine r_callVi X (q0 := 0) (ci := 2) (n := 1) (As := [.int r_13]) (st := []) (c_X2_wordAt l D cI cZ α A hJ r_13 σ_13) ml_X2_86 im_X2_wordAt se_X2_wordAt ii_X2 co_X2_wordAt (by decide +kernel) ⟨Nat.le_of_ble_eq_true rfl, Nat.le_of_ble_eq_true rfl⟩ rfl rfl rfl rfl (Nat.le_of_ble_eq_true rfl) dX2_frameOfPage_16 (fun r_16 σ_16 hc_16 => ?_)
    refine r_goto X (tgt := 23) dX2_frameOfPage_19 (by decide) ?_
    exact r_ireturn X dX2_frameOfPage_23
set_option maxRecDepth 100000 in
set_option maxHeartbeats 4000000 in
theorem c_X2_has (l : Launch) (D : va_G) (cI cZ : ClassId) (α : Nat → Nat) (A : Nat → Prop) (hJ : ∀ σ, va_D A ((kwX cI α) σ)) (x1 x2 : Int32) (σ : KS) : Ct l D (tyA cI cZ) (kwX cI α) A yX2_has cX2_has 3 (some .boolean) 3 vI [.ref (α 0), .int x1, .int x2] σ (m_X2_has x1 x2 σ) := by
  refine Ct.of (own := RX2) hJ (by decide) rfl (Nat.le_of_ble_eq_true rfl) ?_
  intro p e s m args below meth c X
  refine r_sub (lv' := [(0, .ref (α 0)), (1, .int x1), (2, .int x2)]) [0, 1, 2] rfl ?_
  unfold m_X2_has
  refine r_aload_n X (j := 0) dX2_has_0 rfl rfl ?_
  refine r_iload_n X (j := 1) dX2_has_1 rfl rfl ?_
  refine r_iload_n X (j := 2) dX2_has_2 rfl rfl ?_
  refine r_callSi X (n := 1) (As := [.int x2]) (st := [.int x1, .ref (α 0)]) (c_X2_pageOf l D cI cZ α A hJ x2 σ) ml_X2_76 sm_X2_pageOf ii_X2 co_X2_pageOf (by decide +kernel) ⟨Nat.le_of_ble_eq_true rfl, Nat.le_of_ble_eq_true rfl⟩ rfl rfl (Nat.le_of_ble_eq_true rfl) dX2_has_3 (fun r_3 σ_3 hc_3 => ?_)
  refine r_callVi X (q0 := 0) (ci := 2) (n := 2) (As := [.int x1, .int r_3]) (st := []) (c_X2_hasPage l D cI cZ α A hJ x1 r_3 σ_3) ml_X2_79 im_X2_hasPage se_X2_hasPage ii_X2 co_X2_hasPage (by decide +kernel) ⟨Nat.le_of_ble_eq_true rfl, Nat.le_of_ble_eq_true rfl⟩ rfl rfl rfl rfl (Nat.le_of_ble_eq_true rfl) dX2_has_6 (fun r_6 σ_6 hc_6 => ?_)
  exact r_zreturnC X dX2_has_9
set_option maxRecDepth 100000 in
set_option maxHeartbeats 4000000 in
theorem c_X2_takePageFrame (l : Launch) (D : va_G) (cI cZ : ClassId) (α : Nat → Nat) (A : Nat → Prop) (hJ : ∀ σ, va_D A ((kwX cI α) σ)) (σ : KS) : Ct l D (tyA cI cZ) (kwX cI α) A yX2_takePageFrame cX2_takePageFrame 2 (some .int) 3 vI [.ref (α 0)] σ (m_X2_takePageFrame σ) := by
  refine Ct.of (own := RX2) hJ (by decide) rfl (Nat.le_of_ble_eq_true rfl) ?_
  intro p e s m args below meth c X
  refine r_sub (lv' := [(0, .ref (α 0))]) [0] rfl ?_
  unfold m_X2_takePageFrame
  refine r_aload_n X (j := 0) dX2_takePageFrame_0 rfl rfl ?_
  refine r_get X (ci := 2) (q0 := 0) (v := .ref (α 1)) inX2 rfl rfl 0 (by decide) rfl fl_X2_10 dX2_takePageFrame_1 ?_
  refine r_iconst X (v := 0) dX2_takePageFrame_4 (by decide) ?_
  refine r_callVi X (q0 := 1) (ci := 0) (n := 1) (As := [.int 0]) (st := []) (c_X0_takeBlock l D cI cZ α A hJ 0 σ) ml_X2_121 im_X0_takeBlock se_X0_takeBlock ii_X0 co_X0_takeBlock (by decide +kernel) ⟨Nat.le_of_ble_eq_true rfl, Nat.le_of_ble_eq_true rfl⟩ rfl rfl rfl rfl (Nat.le_of_ble_eq_true rfl) dX2_takePageFrame_5 (fun r_5 σ_5 hc_5 => ?_)
  refine r_istore_n X (lv' := [(1, .int r_5), (0, .ref (α 0))]) dX2_takePageFrame_8 rfl (by decide) rfl ?_
  refine r_iload_n X (j := 0) dX2_takePageFrame_9 rfl rfl ?_
  refine r_callSi X (n := 1) (As := [.int r_5]) (st := []) (c_X2_isFrame l D cI cZ α A hJ r_5 σ_5) ml_X2_124 sm_X2_isFrame ii_X2 co_X2_isFrame (by decide +kernel) ⟨Nat.le_of_ble_eq_true rfl, Nat.le_of_ble_eq_true rfl⟩ rfl rfl (Nat.le_of_ble_eq_true rfl) dX2_takePageFrame_10 (fun r_10 σ_10 hc_10 => ?_)
  refine r_if_ne X (tgt := 18) dX2_takePageFrame_13 (by decide) (fun _ => ?_) (fun _ => ?_)
  · refine r_iconst X (v := (-1)) dX2_takePageFrame_16 (by decide) ?_
    exact r_ireturn X dX2_takePageFrame_17
  · refine r_aload_n X (j := 1) dX2_takePageFrame_18 rfl rfl ?_
    refine r_get X (ci := 2) (q0 := 0) (v := .ref (α 9)) inX2 rfl rfl 4 (by decide) rfl fl_X2_32 dX2_takePageFrame_19 ?_
    refine r_iload_n X (j := 0) dX2_takePageFrame_22 rfl rfl ?_
    refine r_iconst X (v := 1) dX2_takePageFrame_23 (by decide) ?_
    refine r_iast X (q0 := 9) (t0 := 0) (kk := 9) rfl (fun _ => rfl) rfl dX2_takePageFrame_24 ?_
    refine r_iload_n X (j := 0) dX2_takePageFrame_25 rfl rfl ?_
    exact r_ireturn X dX2_takePageFrame_26
set_option maxRecDepth 100000 in
set_option maxHeartbeats 4000000 in
theorem c_X2_unblock (l : Launch) (D : va_G) (cI cZ : ClassId) (α : Nat → Nat) (A : Nat → Prop) (hJ : ∀ σ, va_D A ((kwX cI α) σ)) (x1 : Int32) (σ : KS) : Ct l D (tyA cI cZ) (kwX cI α) A yX2_unblock cX2_unblock 3 (some .int) 3 vI [.ref (α 0), .int x1] σ (m_X2_unblock x1 σ) := by
  refine Ct.of (own := RX2) hJ (by decide) rfl (Nat.le_of_ble_eq_true rfl) ?_
  intro p e s m args below meth c X
  refine r_sub (lv' := [(0, .ref (α 0)), (1, .int x1)]) [0, 1] rfl ?_
  unfold m_X2_unblock
  refine r_iload_n X (j := 1) dX2_unblock_0 rfl rfl ?_
  refine r_callSi X (n := 1) (As := [.int x1]) (st := []) (c_X2_isFrame l D cI cZ α A hJ x1 σ) ml_X2_124 sm_X2_isFrame ii_X2 co_X2_isFrame (by decide +kernel) ⟨Nat.le_of_ble_eq_true rfl, Nat.le_of_ble_eq_true rfl⟩ rfl rfl (Nat.le_of_ble_eq_true rfl) dX2_unblock_1 (fun r_1 σ_1 hc_1 => ?_)
  refine r_if_eq X (tgt := 17) dX2_unblock_4 (by decide) (fun _ => ?_) (fun _ => ?_)
  · refine r_bipush X (v := (-2)) dX2_unblock_17 (by decide) ?_
    exact r_ireturn X dX2_unblock_19
  · refine r_aload_n X (j := 0) dX2_unblock_7 rfl rfl ?_
    refine r_get X (ci := 2) (q0 := 0) (v := .ref (α 10)) inX2 rfl rfl 5 (by decide) rfl fl_X2_35 dX2_unblock_8 ?_
    refine r_iload_n X (j := 1) dX2_unblock_11 rfl rfl ?_
    refine r_iald X (q0 := 10) (t0 := 0) (kk := 10) rfl rfl dX2_unblock_12 ?_
    refine r_iconst X (v := (-1)) dX2_unblock_13 (by decide) ?_
    refine r_icmp_ne X (tgt := 20) dX2_unblock_14 (by decide) (fun _ => ?_) (fun _ => ?_)
    · refine r_bipush X (v := (-2)) dX2_unblock_17 (by decide) ?_
      exact r_ireturn X dX2_unblock_19
    · refine r_aload_n X (j := 0) dX2_unblock_20 rfl rfl ?_
      refine r_get X (ci := 2) (q0 := 0) (v := .ref (α 10)) inX2 rfl rfl 5 (by decide) rfl fl_X2_35 dX2_unblock_21 ?_
      refine r_iload_n X (j := 1) dX2_unblock_24 rfl rfl ?_
      refine r_iald X (q0 := 10) (t0 := 0) (kk := 10) rfl rfl dX2_unblock_25 ?_
      refine r_istore_n X (lv' := [(2, .int (rd σ_1 10 x1)), (0, .ref (α 0)), (1, .int x1)]) dX2_unblock_26 rfl (by decide) rfl ?_
      refine r_aload_n X (j := 1) dX2_unblock_27 rfl rfl ?_
      refine r_get X (ci := 2) (q0 := 0) (v := .ref (α 10)) inX2 rfl rfl 5 (by decide) rfl fl_X2_35 dX2_unblock_28 ?_
      refine r_iload_n X (j := 2) dX2_unblock_31 rfl rfl ?_
      refine r_iconst X (v := (-1)) dX2_unblock_32 (by decide) ?_
      refine r_iast X (q0 := 10) (t0 := 0) (kk := 10) rfl (fun _ => rfl) rfl dX2_unblock_33 ?_
      refine r_aload_n X (j := 1) dX2_unblock_34 rfl rfl ?_
      refine r_get X (ci := 2) (q0 := 0) (v := .ref (α 1)) inX2 rfl rfl 0 (by decide) rfl fl_X2_10 dX2_unblock_35 ?_
      refine r_iload_n X (j := 2) dX2_unblock_38 rfl rfl ?_
      refine r_iload_n X (j := 0) dX2_unblock_39 rfl rfl ?_
      refine r_callVv X (q0 := 1) (ci := 0) (n := 2) (As := [.int x1, .int (rd σ_1 10 x1)]) (st := []) (c_X0_giveBlock l D cI cZ α A hJ x1 (rd σ_1 10 x1) (wr σ_1 10 x1 (-1))) ml_X2_127 im_X0_giveBlock se_X0_giveBlock ii_X0 co_X0_giveBlock (by decide +kernel) ⟨Nat.le_of_ble_eq_true rfl, Nat.le_of_ble_eq_true rfl⟩ rfl rfl rfl rfl (Nat.le_of_ble_eq_true rfl) dX2_unblock_40 (fun r_40 σ_40 hc_40 => ?_)
      refine r_iload_n X (j := 0) dX2_unblock_43 rfl rfl ?_
      exact r_ireturn X dX2_unblock_44
set_option maxRecDepth 100000 in
set_option maxHeartbeats 4000000 in
theorem c_X2_addTable (l : Launch) (D : va_G) (cI cZ : ClassId) (α : Nat → Nat) (A : Nat → Prop) (hJ : ∀ σ, va_D A ((kwX cI α) σ)) (x1 x2 : Int32) (σ : KS) : Ct l D (tyA cI cZ) (kwX cI α) A yX2_addTable cX2_addTable 4 (some .boolean) 4 vI [.ref (α 0), .int x1, .int x2] σ (m_X2_addTable x1 x2 σ) := by
  refine Ct.of (own := RX2) hJ (by decide) rfl (Nat.le_of_ble_eq_true rfl) ?_
  intro p e s m args below meth c X
  refine r_sub (lv' := [(0, .ref (α 0)), (1, .int x1), (2, .int x2)]) [0, 1, 2] rfl ?_
  unfold m_X2_addTable
  refine r_aload_n X (j := 0) dX2_addTable_0 rfl rfl ?_
  refine r_get X (ci := 2) (q0 := 0) (v := .ref (α 3)) inX2 rfl rfl 2 (by decide) rfl fl_X2_25 dX2_addTable_1 ?_
  refine r_callVi X (q0 := 3) (ci := 1) (n := 0) (As := []) (st := []) (c_X1t_takePlace l D cI cZ α A hJ σ) ml_X2_163 im_X1_takePlace se_X1_takePlace ii_X1 co_X1_takePlace (by decide +kernel) ⟨Nat.le_of_ble_eq_true rfl, Nat.le_of_ble_eq_true rfl⟩ rfl rfl rfl rfl (Nat.le_of_ble_eq_true rfl) dX2_addTable_4 (fun r_4 σ_4 hc_4 => ?_)
  refine r_istore_n X (lv' := [(3, .int r_4), (0, .ref (α 0)), (1, .int x1), (2, .int x2)]) dX2_addTable_7 rfl (by decide) rfl ?_
  refine r_iload_n X (j := 0) dX2_addTable_8 rfl rfl ?_
  refine r_iconst X (v := (-1)) dX2_addTable_9 (by decide) ?_
  refine r_icmp_ne X (tgt := 15) dX2_addTable_10 (by decide) (fun _ => ?_) (fun _ => ?_)
  · refine r_iconst X (v := 0) dX2_addTable_13 (by decide) ?_
    exact r_zreturn X (by decide) dX2_addTable_14
  · refine r_aload_n X (j := 1) dX2_addTable_15 rfl rfl ?_
    refine r_aload_n X (j := 1) dX2_addTable_16 rfl rfl ?_
    refine r_iload_n X (j := 2) dX2_addTable_17 rfl rfl ?_
    refine r_iload_n X (j := 3) dX2_addTable_18 rfl rfl ?_
    refine r_callVi X (q0 := 0) (ci := 2) (n := 2) (As := [.int x1, .int x2]) (st := [.ref (α 0)]) (c_X2_tableIndex l D cI cZ α A hJ x1 x2 σ_4) ml_X2_190 im_X2_tableIndex se_X2_tableIndex ii_X2 co_X2_tableIndex (by decide +kernel) ⟨Nat.le_of_ble_eq_true rfl, Nat.le_of_ble_eq_true rfl⟩ rfl rfl rfl rfl (Nat.le_of_ble_eq_true rfl) dX2_addTable_19 (fun r_19 σ_19 hc_19 => ?_)
    refine r_iload_n X (j := 0) dX2_addTable_22 rfl rfl ?_
    refine r_callVv X (q0 := 0) (ci := 2) (n := 2) (As := [.int r_19, .int r_4]) (st := []) (c_X2_setWord l D cI cZ α A hJ r_19 r_4 σ_19) ml_X2_92 im_X2_setWord se_X2_setWord ii_X2 co_X2_setWord (by decide +kernel) ⟨Nat.le_of_ble_eq_true rfl, Nat.le_of_ble_eq_true rfl⟩ rfl rfl rfl rfl (Nat.le_of_ble_eq_true rfl) dX2_addTable_23 (fun r_23 σ_23 hc_23 => ?_)
    refine r_iconst X (v := 1) dX2_addTable_26 (by decide) ?_
    exact r_zreturn X (by decide) dX2_addTable_27
set_option maxRecDepth 100000 in
set_option maxHeartbeats 4000000 in
theorem c_X2_dropTable (l : Launch) (D : va_G) (cI cZ : ClassId) (α : Nat → Nat) (A : Nat → Prop) (hJ : ∀ σ, va_D A ((kwX cI α) σ)) (x1 x2 : Int32) (σ : KS) : Ct l D (tyA cI cZ) (kwX cI α) A yX2_dropTable cX2_dropTable 3 none 4 vV [.ref (α 0), .int x1, .int x2] σ (m_X2_dropTable x1 x2 σ) := by
  refine Ct.of (own := RX2) hJ (by decide) rfl (Nat.le_of_ble_eq_true rfl) ?_
  intro p e s m args below meth c X
  refine r_sub (lv' := [(0, .ref (α 0)), (1, .int x1), (2, .int x2)]) [0, 1, 2] rfl ?_
  unfold m_X2_dropTable
  refine r_aload_n X (j := 0) dX2_dropTable_0 rfl rfl ?_
  refine r_get X (ci := 2) (q0 := 0) (v := .ref (α 3)) inX2 rfl rfl 2 (by decide) rfl fl_X2_25 dX2_dropTable_1 ?_
  refine r_aload_n X (j := 0) dX2_dropTable_4 rfl rfl ?_
  refine r_aload_n X (j := 0) dX2_dropTable_5 rfl rfl ?_
  refine r_iload_n X (j := 1) dX2_dropTable_6 rfl rfl ?_
  refine r_iload_n X (j := 2) dX2_dropTable_7 rfl rfl ?_
  refine r_callVi X (q0 := 0) (ci := 2) (n := 2) (As := [.int x1, .int x2]) (st := [.ref (α 0), .ref (α 3)]) (c_X2_tableIndex l D cI cZ α A hJ x1 x2 σ) ml_X2_190 im_X2_tableIndex se_X2_tableIndex ii_X2 co_X2_tableIndex (by decide +kernel) ⟨Nat.le_of_ble_eq_true rfl, Nat.le_of_ble_eq_true rfl⟩ rfl rfl rfl rfl (Nat.le_of_ble_eq_true rfl) dX2_dropTable_8 (fun r_8 σ_8 hc_8 => ?_)
  refine r_callVi X (q0 := 0) (ci := 2) (n := 1) (As := [.int r_8]) (st := [.ref (α 3)]) (c_X2_wordAt l D cI cZ α A hJ r_8 σ_8) ml_X2_86 im_X2_wordAt se_X2_wordAt ii_X2 co_X2_wordAt (by decide +kernel) ⟨Nat.le_of_ble_eq_true rfl, Nat.le_of_ble_eq_true rfl⟩ rfl rfl rfl rfl (Nat.le_of_ble_eq_true rfl) dX2_dropTable_11 (fun r_11 σ_11 hc_11 => ?_)
  refine r_callVv X (q0 := 3) (ci := 1) (n := 1) (As := [.int r_11]) (st := []) (c_X1t_givePlace l D cI cZ α A hJ r_11 σ_11) ml_X2_169 im_X1_givePlace se_X1_givePlace ii_X1 co_X1_givePlace (by decide +kernel) ⟨Nat.le_of_ble_eq_true rfl, Nat.le_of_ble_eq_true rfl⟩ rfl rfl rfl rfl (Nat.le_of_ble_eq_true rfl) dX2_dropTable_14 (fun r_14 σ_14 hc_14 => ?_)
  exact r_return X dX2_dropTable_17
set_option maxRecDepth 100000 in
set_option maxHeartbeats 4000000 in
theorem c_X2_frame (l : Launch) (D : va_G) (cI cZ : ClassId) (α : Nat → Nat) (A : Nat → Prop) (hJ : ∀ σ, va_D A ((kwX cI α) σ)) (x1 x2 : Int32) (σ : KS) : Ct l D (tyA cI cZ) (kwX cI α) A yX2_frame cX2_frame 3 (some .int) 4 vI [.ref (α 0), .int x1, .int x2] σ (m_X2_frame x1 x2 σ) := by
  refine Ct.of (own := RX2) hJ (by decide) rfl (Nat.le_of_ble_eq_true rfl) ?_
  intro p e s m args below meth c X
  refine r_sub (lv' := [(0, .ref (α 0)), (1, .int x1), (2, .int x2)]) [0, 1, 2] rfl ?_
  unfold m_X2_frame
  refine r_aload_n X (j := 0) dX2_frame_0 rfl rfl ?_
  refine r_iload_n X (j := 1) dX2_frame_1 rfl rfl ?_
  refine r_iload_n X (j := 2) dX2_frame_2 rfl rfl ?_
  refine r_callVi X (q0 := 0) (ci := 2) (n := 2) (As := [.int x1, .int x2]) (st := []) (c_X2_frameOfPage l D cI cZ α A hJ x1 x2 σ) ml_X2_136 im_X2_frameOfPage se_X2_frameOfPage ii_X2 co_X2_frameOfPage (by decide +kernel) ⟨Nat.le_of_ble_eq_true rfl, Nat.le_of_ble_eq_true rfl⟩ rfl rfl rfl rfl (Nat.le_of_ble_eq_true rfl) dX2_frame_3 (fun r_3 σ_3 hc_3 => ?_)
  exact r_ireturn X dX2_frame_6
set_option maxRecDepth 100000 in
set_option maxHeartbeats 4000000 in
theorem cl_X2_ownPage_43 (l : Launch) (D : va_G) (cI cZ : ClassId) (α : Nat → Nat) (A : Nat → Prop) (hJ : ∀ σ, va_D A ((kwX cI α) σ)) {p : Program} {e : Env} {s : State} {m : MethodId} {args : Array Value} {below : List Frame} {meth : Method} {c : Code} (X : CX p s m args meth c cX2_ownPage 6 RX2 D (tyA cI cZ) (kwX cI α) A (some .boolean)) : ∀ (n : Nat) (x1 : Int32) (x2 : Int32) (x3 : Int32) (x4 : Int32) (x5 : Int32) (σ : KS), Cr p l e (rmd 4) s m args below meth c 6 D (kwX cI α) A vI 43 [(0, .ref (α 0)), (1, .int x1), (2, .int x2), (3, .int x3), (4, .int x4), (5, .int x5)] [] σ (f_X2_ownPage_43 n x1 x2 x3 x4 x5 σ) := by
  intro n
  induction n with
  | zero => intros; exact r_none
  | succ n ih =>
    intro x1 x2 x3 x4 x5 σ
    rw [f_X2_ownPage_43]
    refine r_iload X (j := 5) dX2_ownPage_43 rfl ?_
    refine r_bipush X (v := 64) dX2_ownPage_45 (by decide) ?_
    refine r_icmp_ge X (tgt := 79) dX2_ownPage_47 (by decide) (fun _ => ?_) (fun _ => ?_)
    · refine r_aload_n X (j := 0) dX2_ownPage_79 rfl rfl ?_
      refine r_iload_n X (j := 3) dX2_ownPage_80 rfl rfl ?_
      refine r_callVv X (q0 := 0) (ci := 2) (n := 1) (As := [.int x3]) (st := []) (c_X2_dropPageFrame l D cI cZ α A hJ x3 σ) ml_X2_187 im_X2_dropPageFrame se_X2_dropPageFrame ii_X2 co_X2_dropPageFrame (by decide +kernel) ⟨Nat.le_of_ble_eq_true rfl, Nat.le_of_ble_eq_true rfl⟩ rfl rfl rfl rfl (Nat.le_of_ble_eq_true rfl) dX2_ownPage_81 (fun r_81 σ_81 hc_81 => ?_)
      refine r_aload_n X (j := 0) dX2_ownPage_84 rfl rfl ?_
      refine r_aload_n X (j := 0) dX2_ownPage_85 rfl rfl ?_
      refine r_iload_n X (j := 1) dX2_ownPage_86 rfl rfl ?_
      refine r_iload_n X (j := 2) dX2_ownPage_87 rfl rfl ?_
      refine r_callVi X (q0 := 0) (ci := 2) (n := 2) (As := [.int x1, .int x2]) (st := [.ref (α 0)]) (c_X2_pageIndex l D cI cZ α A hJ x1 x2 σ_81) ml_X2_181 im_X2_pageIndex se_X2_pageIndex ii_X2 co_X2_pageIndex (by decide +kernel) ⟨Nat.le_of_ble_eq_true rfl, Nat.le_of_ble_eq_true rfl⟩ rfl rfl rfl rfl (Nat.le_of_ble_eq_true rfl) dX2_ownPage_88 (fun r_88 σ_88 hc_88 => ?_)
      refine r_iload X (j := 4) dX2_ownPage_91 rfl ?_
      refine r_callVv X (q0 := 0) (ci := 2) (n := 2) (As := [.int r_88, .int x4]) (st := []) (c_X2_setWord l D cI cZ α A hJ r_88 x4 σ_88) ml_X2_92 im_X2_setWord se_X2_setWord ii_X2 co_X2_setWord (by decide +kernel) ⟨Nat.le_of_ble_eq_true rfl, Nat.le_of_ble_eq_true rfl⟩ rfl rfl rfl rfl (Nat.le_of_ble_eq_true rfl) dX2_ownPage_93 (fun r_93 σ_93 hc_93 => ?_)
      refine r_aload_n X (j := 0) dX2_ownPage_96 rfl rfl ?_
      refine r_dup X dX2_ownPage_97 rfl ?_
      refine r_get X (ci := 2) (q0 := 0) (v := .int (gv σ_93 1)) inX2 rfl rfl 13 (by decide) rfl fl_X2_154 dX2_ownPage_98 ?_
      refine r_iconst X (v := 1) dX2_ownPage_101 (by decide) ?_
      refine r_iadd X dX2_ownPage_102 ?_
      refine r_put X (ci := 2) (q0 := 0) (j := 1) inX2 rfl tyX2_ok nmX2 rfl 13 (by decide) rfl fl_X2_154 rfl (by decide +kernel) (Nat.le_of_ble_eq_true rfl) dX2_ownPage_103 ?_
      refine r_iconst X (v := 1) dX2_ownPage_106 (by decide) ?_
      exact r_zreturn X (by decide) dX2_ownPage_107
    · refine r_aload_n X (j := 0) dX2_ownPage_50 rfl rfl ?_
      refine r_iload X (j := 4) dX2_ownPage_51 rfl ?_
      refine r_bipush X (v := 64) dX2_ownPage_53 (by decide) ?_
      refine r_imul X dX2_ownPage_55 ?_
      refine r_iload X (j := 5) dX2_ownPage_56 rfl ?_
      refine r_iadd X dX2_ownPage_58 ?_
      refine r_aload_n X (j := 0) dX2_ownPage_59 rfl rfl ?_
      refine r_iload_n X (j := 3) dX2_ownPage_60 rfl rfl ?_
      refine r_bipush X (v := 64) dX2_ownPage_61 (by decide) ?_
      refine r_imul X dX2_ownPage_63 ?_
      refine r_iload X (j := 5) dX2_ownPage_64 rfl ?_
      refine r_iadd X dX2_ownPage_66 ?_
      refine r_callVi X (q0 := 0) (ci := 2) (n := 1) (As := [.int ((x3 * 64) + x5)]) (st := [.int ((x4 * 64) + x5), .ref (α 0)]) (c_X2_wordAt l D cI cZ α A hJ ((x3 * 64) + x5) σ) ml_X2_86 im_X2_wordAt se_X2_wordAt ii_X2 co_X2_wordAt (by decide +kernel) ⟨Nat.le_of_ble_eq_true rfl, Nat.le_of_ble_eq_true rfl⟩ rfl rfl rfl rfl (Nat.le_of_ble_eq_true rfl) dX2_ownPage_67 (fun r_67 σ_67 hc_67 => ?_)
      refine r_callVv X (q0 := 0) (ci := 2) (n := 2) (As := [.int ((x4 * 64) + x5), .int r_67]) (st := []) (c_X2_setWord l D cI cZ α A hJ ((x4 * 64) + x5) r_67 σ_67) ml_X2_92 im_X2_setWord se_X2_setWord ii_X2 co_X2_setWord (by decide +kernel) ⟨Nat.le_of_ble_eq_true rfl, Nat.le_of_ble_eq_true rfl⟩ rfl rfl rfl rfl (Nat.le_of_ble_eq_true rfl) dX2_ownPage_70 (fun r_70 σ_70 hc_70 => ?_)
      refine r_iinc X (j := 5) (v := (x5 + 1)) (lv' := [(5, .int (x5 + 1)), (0, .ref (α 0)), (1, .int x1), (2, .int x2), (3, .int x3), (4, .int x4)]) dX2_ownPage_73 rfl rfl (by decide) rfl ?_
      refine r_goto X (tgt := 43) dX2_ownPage_76 (by decide) ?_
      refine r_sub (lv' := [(0, .ref (α 0)), (1, .int x1), (2, .int x2), (3, .int x3), (4, .int x4), (5, .int (x5 + 1))]) [1, 2, 3, 4, 5, 0] rfl ?_
      exact ih x1 x2 x3 x4 (x5 + 1) σ_70
set_option maxRecDepth 100000 in
set_option maxHeartbeats 4000000 in
theorem c_X2_ownPage (l : Launch) (D : va_G) (cI cZ : ClassId) (α : Nat → Nat) (A : Nat → Prop) (hJ : ∀ σ, va_D A ((kwX cI α) σ)) (x1 x2 : Int32) (σ : KS) : Ct l D (tyA cI cZ) (kwX cI α) A yX2_ownPage cX2_ownPage 6 (some .boolean) 4 vI [.ref (α 0), .int x1, .int x2] σ (m_X2_ownPage x1 x2 σ) := by
  refine Ct.of (own := RX2) hJ (by decide) rfl (Nat.le_of_ble_eq_true rfl) ?_
  intro p e s m args below meth c X
  refine r_sub (lv' := [(0, .ref (α 0)), (1, .int x1), (2, .int x2)]) [0, 1, 2] rfl ?_
  unfold m_X2_ownPage
  refine r_aload_n X (j := 0) dX2_ownPage_0 rfl rfl ?_
  refine r_iload_n X (j := 1) dX2_ownPage_1 rfl rfl ?_
  refine r_iload_n X (j := 2) dX2_ownPage_2 rfl rfl ?_
  refine r_callVi X (q0 := 0) (ci := 2) (n := 2) (As := [.int x1, .int x2]) (st := []) (c_X2_frameOfPage l D cI cZ α A hJ x1 x2 σ) ml_X2_136 im_X2_frameOfPage se_X2_frameOfPage ii_X2 co_X2_frameOfPage (by decide +kernel) ⟨Nat.le_of_ble_eq_true rfl, Nat.le_of_ble_eq_true rfl⟩ rfl rfl rfl rfl (Nat.le_of_ble_eq_true rfl) dX2_ownPage_3 (fun r_3 σ_3 hc_3 => ?_)
  refine r_istore_n X (lv' := [(3, .int r_3), (0, .ref (α 0)), (1, .int x1), (2, .int x2)]) dX2_ownPage_6 rfl (by decide) rfl ?_
  refine r_iload_n X (j := 0) dX2_ownPage_7 rfl rfl ?_
  refine r_callSi X (n := 1) (As := [.int r_3]) (st := []) (c_X2_isFrame l D cI cZ α A hJ r_3 σ_3) ml_X2_124 sm_X2_isFrame ii_X2 co_X2_isFrame (by decide +kernel) ⟨Nat.le_of_ble_eq_true rfl, Nat.le_of_ble_eq_true rfl⟩ rfl rfl (Nat.le_of_ble_eq_true rfl) dX2_ownPage_8 (fun r_8 σ_8 hc_8 => ?_)
  refine r_if_eq X (tgt := 24) dX2_ownPage_11 (by decide) (fun _ => ?_) (fun _ => ?_)
  · refine r_iconst X (v := 1) dX2_ownPage_24 (by decide) ?_
    exact r_zreturn X (by decide) dX2_ownPage_25
  · refine r_aload_n X (j := 1) dX2_ownPage_14 rfl rfl ?_
    refine r_get X (ci := 2) (q0 := 0) (v := .ref (α 9)) inX2 rfl rfl 4 (by decide) rfl fl_X2_32 dX2_ownPage_15 ?_
    refine r_iload_n X (j := 0) dX2_ownPage_18 rfl rfl ?_
    refine r_iald X (q0 := 9) (t0 := 0) (kk := 9) rfl rfl dX2_ownPage_19 ?_
    refine r_iconst X (v := 2) dX2_ownPage_20 (by decide) ?_
    refine r_icmp_ge X (tgt := 26) dX2_ownPage_21 (by decide) (fun _ => ?_) (fun _ => ?_)
    · refine r_aload_n X (j := 1) dX2_ownPage_26 rfl rfl ?_
      refine r_callVi X (q0 := 0) (ci := 2) (n := 0) (As := []) (st := []) (c_X2_takePageFrame l D cI cZ α A hJ σ_8) ml_X2_184 im_X2_takePageFrame se_X2_takePageFrame ii_X2 co_X2_takePageFrame (by decide +kernel) ⟨Nat.le_of_ble_eq_true rfl, Nat.le_of_ble_eq_true rfl⟩ rfl rfl rfl rfl (Nat.le_of_ble_eq_true rfl) dX2_ownPage_27 (fun r_27 σ_27 hc_27 => ?_)
      refine r_istore X (lv' := [(4, .int r_27), (3, .int r_3), (0, .ref (α 0)), (1, .int x1), (2, .int x2)]) dX2_ownPage_30 (by decide) rfl ?_
      refine r_iload X (j := 0) dX2_ownPage_32 rfl ?_
      refine r_iconst X (v := (-1)) dX2_ownPage_34 (by decide) ?_
      refine r_icmp_ne X (tgt := 40) dX2_ownPage_35 (by decide) (fun _ => ?_) (fun _ => ?_)
      · refine r_iconst X (v := 0) dX2_ownPage_38 (by decide) ?_
        exact r_zreturn X (by decide) dX2_ownPage_39
      · refine r_iconst X (v := 0) dX2_ownPage_40 (by decide) ?_
        refine r_istore X (lv' := [(5, .int 0), (4, .int r_27), (3, .int r_3), (0, .ref (α 0)), (1, .int x1), (2, .int x2)]) dX2_ownPage_41 (by decide) rfl ?_
        refine r_sub (lv' := [(0, .ref (α 0)), (1, .int x1), (2, .int x2), (3, .int r_3), (4, .int r_27), (5, .int 0)]) [3, 4, 5, 2, 1, 0] rfl ?_
        exact cl_X2_ownPage_43 l D cI cZ α A hJ X FU x1 x2 r_3 r_27 0 σ_27
    · refine r_iconst X (v := 1) dX2_ownPage_24 (by decide) ?_
      exact r_zreturn X (by decide) dX2_ownPage_25
set_option maxRecDepth 100000 in
set_option maxHeartbeats 4000000 in
theorem c_X2_removeProcess (l : Launch) (D : va_G) (cI cZ : ClassId) (α : Nat → Nat) (A : Nat → Prop) (hJ : ∀ σ, va_D A ((kwX cI α) σ)) (x1 : Int32) (σ : KS) : Ct l D (tyA cI cZ) (kwX cI α) A yX2_removeProcess cX2_removeProcess 2 none 4 vV [.ref (α 0), .int x1] σ (m_X2_removeProcess x1 σ) := by
  refine Ct.of (own := RX2) hJ (by decide) rfl (Nat.le_of_ble_eq_true rfl) ?_
  intro p e s m args below meth c X
  refine r_sub (lv' := [(0, .ref (α 0)), (1, .int x1)]) [0, 1] rfl ?_
  unfold m_X2_removeProcess
  refine r_aload_n X (j := 0) dX2_removeProcess_0 rfl rfl ?_
  refine r_get X (ci := 2) (q0 := 0) (v := .ref (α 2)) inX2 rfl rfl 1 (by decide) rfl fl_X2_21 dX2_removeProcess_1 ?_
  refine r_aload_n X (j := 0) dX2_removeProcess_4 rfl rfl ?_
  refine r_get X (ci := 2) (q0 := 0) (v := .ref (α 15)) inX2 rfl rfl 10 (by decide) rfl fl_X2_50 dX2_removeProcess_5 ?_
  refine r_iload_n X (j := 1) dX2_removeProcess_8 rfl rfl ?_
  refine r_iald X (q0 := 15) (t0 := 0) (kk := 15) rfl rfl dX2_removeProcess_9 ?_
  refine r_callVv X (q0 := 2) (ci := 1) (n := 1) (As := [.int (rd σ 15 x1)]) (st := []) (c_X1r_givePlace l D cI cZ α A hJ (rd σ 15 x1) σ) ml_X2_169 im_X1_givePlace se_X1_givePlace ii_X1 co_X1_givePlace (by decide +kernel) ⟨Nat.le_of_ble_eq_true rfl, Nat.le_of_ble_eq_true rfl⟩ rfl rfl rfl rfl (Nat.le_of_ble_eq_true rfl) dX2_removeProcess_10 (fun r_10 σ_10 hc_10 => ?_)
  refine r_aload_n X (j := 0) dX2_removeProcess_13 rfl rfl ?_
  refine r_get X (ci := 2) (q0 := 0) (v := .ref (α 11)) inX2 rfl rfl 6 (by decide) rfl fl_X2_38 dX2_removeProcess_14 ?_
  refine r_iload_n X (j := 1) dX2_removeProcess_17 rfl rfl ?_
  refine r_iconst X (v := 0) dX2_removeProcess_18 (by decide) ?_
  refine r_iast X (q0 := 11) (t0 := 0) (kk := 11) rfl (fun _ => rfl) rfl dX2_removeProcess_19 ?_
  refine r_aload_n X (j := 0) dX2_removeProcess_20 rfl rfl ?_
  refine r_get X (ci := 2) (q0 := 0) (v := .ref (α 12)) inX2 rfl rfl 7 (by decide) rfl fl_X2_41 dX2_removeProcess_21 ?_
  refine r_iload_n X (j := 1) dX2_removeProcess_24 rfl rfl ?_
  refine r_iconst X (v := (-1)) dX2_removeProcess_25 (by decide) ?_
  refine r_iast X (q0 := 12) (t0 := 0) (kk := 12) rfl (fun _ => rfl) rfl dX2_removeProcess_26 ?_
  exact r_return X dX2_removeProcess_27
set_option maxRecDepth 100000 in
set_option maxHeartbeats 4000000 in
theorem cl_X2_sharePages_10 (l : Launch) (D : va_G) (cI cZ : ClassId) (α : Nat → Nat) (A : Nat → Prop) (hJ : ∀ σ, va_D A ((kwX cI α) σ)) {p : Program} {e : Env} {s : State} {m : MethodId} {args : Array Value} {below : List Frame} {meth : Method} {c : Code} (X : CX p s m args meth c cX2_sharePages 6 RX2 D (tyA cI cZ) (kwX cI α) A none) : ∀ (n : Nat) (x1 : Int32) (x2 : Int32) (x3 : Int32) (x4 : Int32) (σ : KS), Cr p l e (rmd 4) s m args below meth c 6 D (kwX cI α) A vV 10 [(0, .ref (α 0)), (1, .int x1), (2, .int x2), (3, .int x3), (4, .int x4)] [] σ (f_X2_sharePages_10 n x1 x2 x3 x4 σ) := by
  intro n
  induction n with
  | zero => intros; exact r_none
  | succ n ih =>
    intro x1 x2 x3 x4 σ
    rw [f_X2_sharePages_10]
    refine r_iload X (j := 4) dX2_sharePages_10 rfl ?_
    refine r_iload_n X (j := 3) dX2_sharePages_12 rfl rfl ?_
    refine r_icmp_ge X (tgt := 63) dX2_sharePages_13 (by decide) (fun _ => ?_) (fun _ => ?_)
    · refine r_aload_n X (j := 0) dX2_sharePages_63 rfl rfl ?_
      refine r_get X (ci := 2) (q0 := 0) (v := .ref (α 14)) inX2 rfl rfl 9 (by decide) rfl fl_X2_47 dX2_sharePages_64 ?_
      refine r_iload_n X (j := 2) dX2_sharePages_67 rfl rfl ?_
      refine r_iload_n X (j := 3) dX2_sharePages_68 rfl rfl ?_
      refine r_iast X (q0 := 14) (t0 := 0) (kk := 14) rfl (fun _ => rfl) rfl dX2_sharePages_69 ?_
      exact r_return X dX2_sharePages_70
    · refine r_aload_n X (j := 0) dX2_sharePages_16 rfl rfl ?_
      refine r_iload_n X (j := 1) dX2_sharePages_17 rfl rfl ?_
      refine r_iload X (j := 4) dX2_sharePages_18 rfl ?_
      refine r_callVi X (q0 := 0) (ci := 2) (n := 2) (As := [.int x1, .int x4]) (st := []) (c_X2_frameOfPage l D cI cZ α A hJ x1 x4 σ) ml_X2_136 im_X2_frameOfPage se_X2_frameOfPage ii_X2 co_X2_frameOfPage (by decide +kernel) ⟨Nat.le_of_ble_eq_true rfl, Nat.le_of_ble_eq_true rfl⟩ rfl rfl rfl rfl (Nat.le_of_ble_eq_true rfl) dX2_sharePages_20 (fun r_20 σ_20 hc_20 => ?_)
      refine r_istore X (lv' := [(5, .int r_20), (0, .ref (α 0)), (1, .int x1), (2, .int x2), (3, .int x3), (4, .int x4)]) dX2_sharePages_23 (by decide) rfl ?_
      refine r_iload X (j := 0) dX2_sharePages_25 rfl ?_
      refine r_callSi X (n := 1) (As := [.int r_20]) (st := []) (c_X2_isFrame l D cI cZ α A hJ r_20 σ_20) ml_X2_124 sm_X2_isFrame ii_X2 co_X2_isFrame (by decide +kernel) ⟨Nat.le_of_ble_eq_true rfl, Nat.le_of_ble_eq_true rfl⟩ rfl rfl (Nat.le_of_ble_eq_true rfl) dX2_sharePages_27 (fun r_27 σ_27 hc_27 => ?_)
      refine r_if_eq X (tgt := 44) dX2_sharePages_30 (by decide) (fun _ => ?_) (fun _ => ?_)
      · refine r_aload_n X (j := 1) dX2_sharePages_44 rfl rfl ?_
        refine r_aload_n X (j := 1) dX2_sharePages_45 rfl rfl ?_
        refine r_iload_n X (j := 3) dX2_sharePages_46 rfl rfl ?_
        refine r_iload X (j := 5) dX2_sharePages_47 rfl ?_
        refine r_callVi X (q0 := 0) (ci := 2) (n := 2) (As := [.int x2, .int x4]) (st := [.ref (α 0)]) (c_X2_pageIndex l D cI cZ α A hJ x2 x4 σ_27) ml_X2_181 im_X2_pageIndex se_X2_pageIndex ii_X2 co_X2_pageIndex (by decide +kernel) ⟨Nat.le_of_ble_eq_true rfl, Nat.le_of_ble_eq_true rfl⟩ rfl rfl rfl rfl (Nat.le_of_ble_eq_true rfl) dX2_sharePages_49 (fun r_49 σ_49 hc_49 => ?_)
        refine r_iload X (j := 0) dX2_sharePages_52 rfl ?_
        refine r_callVv X (q0 := 0) (ci := 2) (n := 2) (As := [.int r_49, .int r_20]) (st := []) (c_X2_setWord l D cI cZ α A hJ r_49 r_20 σ_49) ml_X2_92 im_X2_setWord se_X2_setWord ii_X2 co_X2_setWord (by decide +kernel) ⟨Nat.le_of_ble_eq_true rfl, Nat.le_of_ble_eq_true rfl⟩ rfl rfl rfl rfl (Nat.le_of_ble_eq_true rfl) dX2_sharePages_54 (fun r_54 σ_54 hc_54 => ?_)
        refine r_iinc X (j := 5) (v := (x4 + 1)) (lv' := [(4, .int (x4 + 1)), (5, .int r_20), (0, .ref (α 0)), (1, .int x1), (2, .int x2), (3, .int x3)]) dX2_sharePages_57 rfl rfl (by decide) rfl ?_
        refine r_goto X (tgt := 10) dX2_sharePages_60 (by decide) ?_
        refine r_sub (lv' := [(0, .ref (α 0)), (1, .int x1), (2, .int x2), (3, .int x3), (4, .int (x4 + 1))]) [2, 3, 4, 5, 0] rfl ?_
        exact ih x1 x2 x3 (x4 + 1) σ_54
      · refine r_aload_n X (j := 1) dX2_sharePages_33 rfl rfl ?_
        refine r_get X (ci := 2) (q0 := 0) (v := .ref (α 9)) inX2 rfl rfl 4 (by decide) rfl fl_X2_32 dX2_sharePages_34 ?_
        refine r_iload X (j := 0) dX2_sharePages_37 rfl ?_
        refine r_dup2 X dX2_sharePages_39 rfl rfl ?_
        refine r_iald X (q0 := 9) (t0 := 0) (kk := 9) rfl rfl dX2_sharePages_40 ?_
        refine r_iconst X (v := 1) dX2_sharePages_41 (by decide) ?_
        refine r_iadd X dX2_sharePages_42 ?_
        refine r_iast X (q0 := 9) (t0 := 0) (kk := 9) rfl (fun _ => rfl) rfl dX2_sharePages_43 ?_
        refine r_aload_n X (j := 1) dX2_sharePages_44 rfl rfl ?_
        refine r_aload_n X (j := 1) dX2_sharePages_45 rfl rfl ?_
        refine r_iload_n X (j := 3) dX2_sharePages_46 rfl rfl ?_
        refine r_iload X (j := 5) dX2_sharePages_47 rfl ?_
        refine r_callVi X (q0 := 0) (ci := 2) (n := 2) (As := [.int x2, .int x4]) (st := [.ref (α 0)]) (c_X2_pageIndex l D cI cZ α A hJ x2 x4 (wr σ_27 9 r_20 ((rd σ_27 9 r_20) + 1))) ml_X2_181 im_X2_pageIndex se_X2_pageIndex ii_X2 co_X2_pageIndex (by decide +kernel) ⟨Nat.le_of_ble_eq_true rfl, Nat.le_of_ble_eq_true rfl⟩ rfl rfl rfl rfl (Nat.le_of_ble_eq_true rfl) dX2_sharePages_49 (fun r_49 σ_49 hc_49 => ?_)
        refine r_iload X (j := 0) dX2_sharePages_52 rfl ?_
        refine r_callVv X (q0 := 0) (ci := 2) (n := 2) (As := [.int r_49, .int r_20]) (st := []) (c_X2_setWord l D cI cZ α A hJ r_49 r_20 σ_49) ml_X2_92 im_X2_setWord se_X2_setWord ii_X2 co_X2_setWord (by decide +kernel) ⟨Nat.le_of_ble_eq_true rfl, Nat.le_of_ble_eq_true rfl⟩ rfl rfl rfl rfl (Nat.le_of_ble_eq_true rfl) dX2_sharePages_54 (fun r_54 σ_54 hc_54 => ?_)
        refine r_iinc X (j := 5) (v := (x4 + 1)) (lv' := [(4, .int (x4 + 1)), (5, .int r_20), (0, .ref (α 0)), (1, .int x1), (2, .int x2), (3, .int x3)]) dX2_sharePages_57 rfl rfl (by decide) rfl ?_
        refine r_goto X (tgt := 10) dX2_sharePages_60 (by decide) ?_
        refine r_sub (lv' := [(0, .ref (α 0)), (1, .int x1), (2, .int x2), (3, .int x3), (4, .int (x4 + 1))]) [2, 3, 4, 5, 0] rfl ?_
        exact ih x1 x2 x3 (x4 + 1) σ_54
set_option maxRecDepth 100000 in
set_option maxHeartbeats 4000000 in
theorem c_X2_sharePages (l : Launch) (D : va_G) (cI cZ : ClassId) (α : Nat → Nat) (A : Nat → Prop) (hJ : ∀ σ, va_D A ((kwX cI α) σ)) (x1 x2 : Int32) (σ : KS) : Ct l D (tyA cI cZ) (kwX cI α) A yX2_sharePages cX2_sharePages 6 none 4 vV [.ref (α 0), .int x1, .int x2] σ (m_X2_sharePages x1 x2 σ) := by
  refine Ct.of (own := RX2) hJ (by decide) rfl (Nat.le_of_ble_eq_true rfl) ?_
  intro p e s m args below meth c X
  refine r_sub (lv' := [(0, .ref (α 0)), (1, .int x1), (2, .int x2)]) [0, 1, 2] rfl ?_
  unfold m_X2_sharePages
  refine r_aload_n X (j := 0) dX2_sharePages_0 rfl rfl ?_
  refine r_get X (ci := 2) (q0 := 0) (v := .ref (α 14)) inX2 rfl rfl 9 (by decide) rfl fl_X2_47 dX2_sharePages_1 ?_
  refine r_iload_n X (j := 1) dX2_sharePages_4 rfl rfl ?_
  refine r_iald X (q0 := 14) (t0 := 0) (kk := 14) rfl rfl dX2_sharePages_5 ?_
  refine r_istore_n X (lv' := [(3, .int (rd σ 14 x1)), (0, .ref (α 0)), (1, .int x1), (2, .int x2)]) dX2_sharePages_6 rfl (by decide) rfl ?_
  refine r_iconst X (v := 0) dX2_sharePages_7 (by decide) ?_
  refine r_istore X (lv' := [(4, .int 0), (3, .int (rd σ 14 x1)), (0, .ref (α 0)), (1, .int x1), (2, .int x2)]) dX2_sharePages_8 (by decide) rfl ?_
  refine r_sub (lv' := [(0, .ref (α 0)), (1, .int x1), (2, .int x2), (3, .int (rd σ 14 x1)), (4, .int 0)]) [2, 3, 4, 1, 0] rfl ?_
  exact cl_X2_sharePages_10 l D cI cZ α A hJ X FU x1 x2 (rd σ 14 x1) 0 σ
set_option maxRecDepth 100000 in
set_option maxHeartbeats 4000000 in
theorem c_X2_wordIndex (l : Launch) (D : va_G) (cI cZ : ClassId) (α : Nat → Nat) (A : Nat → Prop) (hJ : ∀ σ, va_D A ((kwX cI α) σ)) (x1 x2 : Int32) (σ : KS) : Ct l D (tyA cI cZ) (kwX cI α) A yX2_wordIndex cX2_wordIndex 3 (some .int) 4 vI [.ref (α 0), .int x1, .int x2] σ (m_X2_wordIndex x1 x2 σ) := by
  refine Ct.of (own := RX2) hJ (by decide) rfl (Nat.le_of_ble_eq_true rfl) ?_
  intro p e s m args below meth c X
  refine r_sub (lv' := [(0, .ref (α 0)), (1, .int x1), (2, .int x2)]) [0, 1, 2] rfl ?_
  unfold m_X2_wordIndex
  refine r_aload_n X (j := 0) dX2_wordIndex_0 rfl rfl ?_
  refine r_iload_n X (j := 1) dX2_wordIndex_1 rfl rfl ?_
  refine r_iload_n X (j := 2) dX2_wordIndex_2 rfl rfl ?_
  refine r_callSi X (n := 1) (As := [.int x2]) (st := [.int x1, .ref (α 0)]) (c_X2_pageOf l D cI cZ α A hJ x2 σ) ml_X2_76 sm_X2_pageOf ii_X2 co_X2_pageOf (by decide +kernel) ⟨Nat.le_of_ble_eq_true rfl, Nat.le_of_ble_eq_true rfl⟩ rfl rfl (Nat.le_of_ble_eq_true rfl) dX2_wordIndex_3 (fun r_3 σ_3 hc_3 => ?_)
  refine r_callVi X (q0 := 0) (ci := 2) (n := 2) (As := [.int x1, .int r_3]) (st := []) (c_X2_frameOfPage l D cI cZ α A hJ x1 r_3 σ_3) ml_X2_136 im_X2_frameOfPage se_X2_frameOfPage ii_X2 co_X2_frameOfPage (by decide +kernel) ⟨Nat.le_of_ble_eq_true rfl, Nat.le_of_ble_eq_true rfl⟩ rfl rfl rfl rfl (Nat.le_of_ble_eq_true rfl) dX2_wordIndex_6 (fun r_6 σ_6 hc_6 => ?_)
  refine r_bipush X (v := 64) dX2_wordIndex_9 (by decide) ?_
  refine r_imul X dX2_wordIndex_11 ?_
  refine r_iload_n X (j := 2) dX2_wordIndex_12 rfl rfl ?_
  refine r_bipush X (v := 63) dX2_wordIndex_13 (by decide) ?_
  refine r_iand X dX2_wordIndex_15 ?_
  refine r_iadd X dX2_wordIndex_16 ?_
  exact r_ireturn X dX2_wordIndex_17
set_option maxRecDepth 100000 in
set_option maxHeartbeats 4000000 in
theorem cl_X2_addPage_55 (l : Launch) (D : va_G) (cI cZ : ClassId) (α : Nat → Nat) (A : Nat → Prop) (hJ : ∀ σ, va_D A ((kwX cI α) σ)) {p : Program} {e : Env} {s : State} {m : MethodId} {args : Array Value} {below : List Frame} {meth : Method} {c : Code} (X : CX p s m args meth c cX2_addPage 6 RX2 D (tyA cI cZ) (kwX cI α) A (some .boolean)) : ∀ (n : Nat) (x1 : Int32) (x2 : Int32) (x3 : Int32) (x4 : Int32) (x5 : Int32) (σ : KS), Cr p l e (rmd 5) s m args below meth c 6 D (kwX cI α) A vI 55 [(0, .ref (α 0)), (1, .int x1), (2, .int x2), (3, .int x3), (4, .int x4), (5, .int x5)] [] σ (f_X2_addPage_55 n x1 x2 x3 x4 x5 σ) := by
  intro n
  induction n with
  | zero => intros; exact r_none
  | succ n ih =>
    intro x1 x2 x3 x4 x5 σ
    rw [f_X2_addPage_55]
    refine r_iload X (j := 5) dX2_addPage_55 rfl ?_
    refine r_bipush X (v := 64) dX2_addPage_57 (by decide) ?_
    refine r_icmp_ge X (tgt := 81) dX2_addPage_59 (by decide) (fun _ => ?_) (fun _ => ?_)
    · refine r_aload_n X (j := 0) dX2_addPage_81 rfl rfl ?_
      refine r_aload_n X (j := 0) dX2_addPage_82 rfl rfl ?_
      refine r_iload_n X (j := 1) dX2_addPage_83 rfl rfl ?_
      refine r_iload_n X (j := 2) dX2_addPage_84 rfl rfl ?_
      refine r_callVi X (q0 := 0) (ci := 2) (n := 2) (As := [.int x1, .int x2]) (st := [.ref (α 0)]) (c_X2_pageIndex l D cI cZ α A hJ x1 x2 σ) ml_X2_181 im_X2_pageIndex se_X2_pageIndex ii_X2 co_X2_pageIndex (by decide +kernel) ⟨Nat.le_of_ble_eq_true rfl, Nat.le_of_ble_eq_true rfl⟩ rfl rfl rfl rfl (Nat.le_of_ble_eq_true rfl) dX2_addPage_85 (fun r_85 σ_85 hc_85 => ?_)
      refine r_iload X (j := 4) dX2_addPage_88 rfl ?_
      refine r_callVv X (q0 := 0) (ci := 2) (n := 2) (As := [.int r_85, .int x4]) (st := []) (c_X2_setWord l D cI cZ α A hJ r_85 x4 σ_85) ml_X2_92 im_X2_setWord se_X2_setWord ii_X2 co_X2_setWord (by decide +kernel) ⟨Nat.le_of_ble_eq_true rfl, Nat.le_of_ble_eq_true rfl⟩ rfl rfl rfl rfl (Nat.le_of_ble_eq_true rfl) dX2_addPage_90 (fun r_90 σ_90 hc_90 => ?_)
      refine r_aload_n X (j := 0) dX2_addPage_93 rfl rfl ?_
      refine r_get X (ci := 2) (q0 := 0) (v := .ref (α 14)) inX2 rfl rfl 9 (by decide) rfl fl_X2_47 dX2_addPage_94 ?_
      refine r_iload_n X (j := 1) dX2_addPage_97 rfl rfl ?_
      refine r_iload_n X (j := 2) dX2_addPage_98 rfl rfl ?_
      refine r_iconst X (v := 1) dX2_addPage_99 (by decide) ?_
      refine r_iadd X dX2_addPage_100 ?_
      refine r_iast X (q0 := 14) (t0 := 0) (kk := 14) rfl (fun _ => rfl) rfl dX2_addPage_101 ?_
      refine r_iconst X (v := 1) dX2_addPage_102 (by decide) ?_
      exact r_zreturn X (by decide) dX2_addPage_103
    · refine r_aload_n X (j := 0) dX2_addPage_62 rfl rfl ?_
      refine r_iload X (j := 4) dX2_addPage_63 rfl ?_
      refine r_bipush X (v := 64) dX2_addPage_65 (by decide) ?_
      refine r_imul X dX2_addPage_67 ?_
      refine r_iload X (j := 5) dX2_addPage_68 rfl ?_
      refine r_iadd X dX2_addPage_70 ?_
      refine r_iconst X (v := 0) dX2_addPage_71 (by decide) ?_
      refine r_callVv X (q0 := 0) (ci := 2) (n := 2) (As := [.int ((x4 * 64) + x5), .int 0]) (st := []) (c_X2_setWord l D cI cZ α A hJ ((x4 * 64) + x5) 0 σ) ml_X2_92 im_X2_setWord se_X2_setWord ii_X2 co_X2_setWord (by decide +kernel) ⟨Nat.le_of_ble_eq_true rfl, Nat.le_of_ble_eq_true rfl⟩ rfl rfl rfl rfl (Nat.le_of_ble_eq_true rfl) dX2_addPage_72 (fun r_72 σ_72 hc_72 => ?_)
      refine r_iinc X (j := 5) (v := (x5 + 1)) (lv' := [(5, .int (x5 + 1)), (0, .ref (α 0)), (1, .int x1), (2, .int x2), (3, .int x3), (4, .int x4)]) dX2_addPage_75 rfl rfl (by decide) rfl ?_
      refine r_goto X (tgt := 55) dX2_addPage_78 (by decide) ?_
      refine r_sub (lv' := [(0, .ref (α 0)), (1, .int x1), (2, .int x2), (3, .int x3), (4, .int x4), (5, .int (x5 + 1))]) [1, 2, 3, 4, 5, 0] rfl ?_
      exact ih x1 x2 x3 x4 (x5 + 1) σ_72
set_option maxRecDepth 100000 in
set_option maxHeartbeats 4000000 in
theorem c_X2_addPage (l : Launch) (D : va_G) (cI cZ : ClassId) (α : Nat → Nat) (A : Nat → Prop) (hJ : ∀ σ, va_D A ((kwX cI α) σ)) (x1 x2 : Int32) (σ : KS) : Ct l D (tyA cI cZ) (kwX cI α) A yX2_addPage cX2_addPage 6 (some .boolean) 5 vI [.ref (α 0), .int x1, .int x2] σ (m_X2_addPage x1 x2 σ) := by
  refine Ct.of (own := RX2) hJ (by decide) rfl (Nat.le_of_ble_eq_true rfl) ?_
  intro p e s m args below meth c X
  refine r_sub (lv' := [(0, .ref (α 0)), (1, .int x1), (2, .int x2)]) [0, 1, 2] rfl ?_
  unfold m_X2_addPage
  refine r_iload_n X (j := 2) dX2_addPage_0 rfl rfl ?_
  refine r_bipush X (v := 16) dX2_addPage_1 (by decide) ?_
  refine r_irem X dX2_addPage_3 (by decide) ?_
  refine r_if_ne X (tgt := 11) dX2_addPage_4 (by decide) (fun _ => ?_) (fun _ => ?_)
  · refine r_iconst X (v := 1) dX2_addPage_7 (by decide) ?_
    refine r_goto X (tgt := 12) dX2_addPage_8 (by decide) ?_
    refine r_istore_n X (lv' := [(3, .int 1), (0, .ref (α 0)), (1, .int x1), (2, .int x2)]) dX2_addPage_12 rfl (by decide) rfl ?_
    refine r_iload_n X (j := 0) dX2_addPage_13 rfl rfl ?_
    refine r_f (by decide) (r_if_eq X (tgt := 28) (k1 := none) dX2_addPage_14 (by decide) (fun _ => r_none) (fun _ => ?_))
    refine r_aload_n X (j := 1) dX2_addPage_17 rfl rfl ?_
    refine r_iload_n X (j := 2) dX2_addPage_18 rfl rfl ?_
    refine r_iload_n X (j := 3) dX2_addPage_19 rfl rfl ?_
    refine r_callVi X (q0 := 0) (ci := 2) (n := 2) (As := [.int x1, .int x2]) (st := []) (c_X2_addTable l D cI cZ α A hJ x1 x2 σ) ml_X2_175 im_X2_addTable se_X2_addTable ii_X2 co_X2_addTable (by decide +kernel) ⟨Nat.le_of_ble_eq_true rfl, Nat.le_of_ble_eq_true rfl⟩ rfl rfl rfl rfl (Nat.le_of_ble_eq_true rfl) dX2_addPage_20 (fun r_20 σ_20 hc_20 => ?_)
    refine r_if_ne X (tgt := 28) dX2_addPage_23 (by decide) (fun _ => ?_) (fun _ => ?_)
    · refine r_iconst X (v := 0) dX2_addPage_26 (by decide) ?_
      exact r_zreturn X (by decide) dX2_addPage_27
    · refine r_aload_n X (j := 1) dX2_addPage_28 rfl rfl ?_
      refine r_callVi X (q0 := 0) (ci := 2) (n := 0) (As := []) (st := []) (c_X2_takePageFrame l D cI cZ α A hJ σ_20) ml_X2_184 im_X2_takePageFrame se_X2_takePageFrame ii_X2 co_X2_takePageFrame (by decide +kernel) ⟨Nat.le_of_ble_eq_true rfl, Nat.le_of_ble_eq_true rfl⟩ rfl rfl rfl rfl (Nat.le_of_ble_eq_true rfl) dX2_addPage_29 (fun r_29 σ_29 hc_29 => ?_)
      refine r_istore X (lv' := [(4, .int r_29), (3, .int 1), (0, .ref (α 0)), (1, .int x1), (2, .int x2)]) dX2_addPage_32 (by decide) rfl ?_
      refine r_iload X (j := 0) dX2_addPage_34 rfl ?_
      refine r_iconst X (v := (-1)) dX2_addPage_36 (by decide) ?_
      refine r_icmp_ne X (tgt := 52) dX2_addPage_37 (by decide) (fun _ => ?_) (fun _ => ?_)
      · refine r_iload_n X (j := 1) dX2_addPage_40 rfl rfl ?_
        refine r_f (by decide) (r_if_eq X (tgt := 50) (k1 := none) dX2_addPage_41 (by decide) (fun _ => r_none) (fun _ => ?_))
        refine r_aload_n X (j := 2) dX2_addPage_44 rfl rfl ?_
        refine r_iload_n X (j := 3) dX2_addPage_45 rfl rfl ?_
        refine r_iload_n X (j := 4) dX2_addPage_46 rfl rfl ?_
        refine r_callVv X (q0 := 0) (ci := 2) (n := 2) (As := [.int x1, .int x2]) (st := []) (c_X2_dropTable l D cI cZ α A hJ x1 x2 σ_29) ml_X2_178 im_X2_dropTable se_X2_dropTable ii_X2 co_X2_dropTable (by decide +kernel) ⟨Nat.le_of_ble_eq_true rfl, Nat.le_of_ble_eq_true rfl⟩ rfl rfl rfl rfl (Nat.le_of_ble_eq_true rfl) dX2_addPage_47 (fun r_47 σ_47 hc_47 => ?_)
        refine r_iconst X (v := 0) dX2_addPage_50 (by decide) ?_
        exact r_zreturn X (by decide) dX2_addPage_51
      · refine r_iconst X (v := 0) dX2_addPage_52 (by decide) ?_
        refine r_istore X (lv' := [(5, .int 0), (4, .int r_29), (3, .int 1), (0, .ref (α 0)), (1, .int x1), (2, .int x2)]) dX2_addPage_53 (by decide) rfl ?_
        refine r_sub (lv' := [(0, .ref (α 0)), (1, .int x1), (2, .int x2), (3, .int 1), (4, .int r_29), (5, .int 0)]) [3, 4, 5, 2, 1, 0] rfl ?_
        exact cl_X2_addPage_55 l D cI cZ α A hJ X FU x1 x2 1 r_29 0 σ_29
  · refine r_iconst X (v := 0) dX2_addPage_11 (by decide) ?_
    refine r_istore_n X (lv' := [(3, .int 0), (0, .ref (α 0)), (1, .int x1), (2, .int x2)]) dX2_addPage_12 rfl (by decide) rfl ?_
    refine r_iload_n X (j := 0) dX2_addPage_13 rfl rfl ?_
    refine r_t (by decide) (r_if_eq X (tgt := 28) (k2 := none) dX2_addPage_14 (by decide) (fun _ => ?_) (fun _ => r_none))
    refine r_aload_n X (j := 1) dX2_addPage_28 rfl rfl ?_
    refine r_callVi X (q0 := 0) (ci := 2) (n := 0) (As := []) (st := []) (c_X2_takePageFrame l D cI cZ α A hJ σ) ml_X2_184 im_X2_takePageFrame se_X2_takePageFrame ii_X2 co_X2_takePageFrame (by decide +kernel) ⟨Nat.le_of_ble_eq_true rfl, Nat.le_of_ble_eq_true rfl⟩ rfl rfl rfl rfl (Nat.le_of_ble_eq_true rfl) dX2_addPage_29 (fun r_29 σ_29 hc_29 => ?_)
    refine r_istore X (lv' := [(4, .int r_29), (3, .int 0), (0, .ref (α 0)), (1, .int x1), (2, .int x2)]) dX2_addPage_32 (by decide) rfl ?_
    refine r_iload X (j := 0) dX2_addPage_34 rfl ?_
    refine r_iconst X (v := (-1)) dX2_addPage_36 (by decide) ?_
    refine r_icmp_ne X (tgt := 52) dX2_addPage_37 (by decide) (fun _ => ?_) (fun _ => ?_)
    · refine r_iload_n X (j := 1) dX2_addPage_40 rfl rfl ?_
      refine r_t (by decide) (r_if_eq X (tgt := 50) (k2 := none) dX2_addPage_41 (by decide) (fun _ => ?_) (fun _ => r_none))
      refine r_iconst X (v := 0) dX2_addPage_50 (by decide) ?_
      exact r_zreturn X (by decide) dX2_addPage_51
    · refine r_iconst X (v := 0) dX2_addPage_52 (by decide) ?_
      refine r_istore X (lv' := [(5, .int 0), (4, .int r_29), (3, .int 0), (0, .ref (α 0)), (1, .int x1), (2, .int x2)]) dX2_addPage_53 (by decide) rfl ?_
      refine r_sub (lv' := [(0, .ref (α 0)), (1, .int x1), (2, .int x2), (3, .int 0), (4, .int r_29), (5, .int 0)]) [3, 4, 5, 2, 1, 0] rfl ?_
      exact cl_X2_addPage_55 l D cI cZ α A hJ X FU x1 x2 0 r_29 0 σ_29
set_option maxRecDepth 100000 in
set_option maxHeartbeats 4000000 in
theorem cl_X2_leaveChildren_2 (l : Launch) (D : va_G) (cI cZ : ClassId) (α : Nat → Nat) (A : Nat → Prop) (hJ : ∀ σ, va_D A ((kwX cI α) σ)) {p : Program} {e : Env} {s : State} {m : MethodId} {args : Array Value} {below : List Frame} {meth : Method} {c : Code} (X : CX p s m args meth c cX2_leaveChildren 3 RX2 D (tyA cI cZ) (kwX cI α) A none) : ∀ (n : Nat) (x1 : Int32) (x2 : Int32) (σ : KS), Cr p l e (rmd 5) s m args below meth c 3 D (kwX cI α) A vV 2 [(0, .ref (α 0)), (1, .int x1), (2, .int x2)] [] σ (f_X2_leaveChildren_2 n x1 x2 σ) := by
  intro n
  induction n with
  | zero => intros; exact r_none
  | succ n ih =>
    intro x1 x2 σ
    rw [f_X2_leaveChildren_2]
    refine r_iload_n X (j := 2) dX2_leaveChildren_2 rfl rfl ?_
    refine r_bipush X (v := 16) dX2_leaveChildren_3 (by decide) ?_
    refine r_icmp_ge X (tgt := 49) dX2_leaveChildren_5 (by decide) (fun _ => ?_) (fun _ => ?_)
    · exact r_return X dX2_leaveChildren_49
    · refine r_aload_n X (j := 0) dX2_leaveChildren_8 rfl rfl ?_
      refine r_get X (ci := 2) (q0 := 0) (v := .ref (α 12)) inX2 rfl rfl 7 (by decide) rfl fl_X2_41 dX2_leaveChildren_9 ?_
      refine r_iload_n X (j := 2) dX2_leaveChildren_12 rfl rfl ?_
      refine r_iald X (q0 := 12) (t0 := 0) (kk := 12) rfl rfl dX2_leaveChildren_13 ?_
      refine r_iload_n X (j := 1) dX2_leaveChildren_14 rfl rfl ?_
      refine r_icmp_ne X (tgt := 43) dX2_leaveChildren_15 (by decide) (fun _ => ?_) (fun _ => ?_)
      · refine r_aload_n X (j := 0) dX2_leaveChildren_18 rfl rfl ?_
        refine r_get X (ci := 2) (q0 := 0) (v := .ref (α 11)) inX2 rfl rfl 6 (by decide) rfl fl_X2_38 dX2_leaveChildren_19 ?_
        refine r_iload_n X (j := 2) dX2_leaveChildren_22 rfl rfl ?_
        refine r_iald X (q0 := 11) (t0 := 0) (kk := 11) rfl rfl dX2_leaveChildren_23 ?_
        refine r_iconst X (v := 2) dX2_leaveChildren_24 (by decide) ?_
        refine r_icmp_ne X (tgt := 36) dX2_leaveChildren_25 (by decide) (fun _ => ?_) (fun _ => ?_)
        · refine r_aload_n X (j := 0) dX2_leaveChildren_28 rfl rfl ?_
          refine r_iload_n X (j := 2) dX2_leaveChildren_29 rfl rfl ?_
          refine r_callVv X (q0 := 0) (ci := 2) (n := 1) (As := [.int x2]) (st := []) (c_X2_removeProcess l D cI cZ α A hJ x2 σ) ml_X2_102 im_X2_removeProcess se_X2_removeProcess ii_X2 co_X2_removeProcess (by decide +kernel) ⟨Nat.le_of_ble_eq_true rfl, Nat.le_of_ble_eq_true rfl⟩ rfl rfl rfl rfl (Nat.le_of_ble_eq_true rfl) dX2_leaveChildren_30 (fun r_30 σ_30 hc_30 => ?_)
          refine r_goto X (tgt := 43) dX2_leaveChildren_33 (by decide) ?_
          refine r_iinc X (j := 2) (v := (x2 + 1)) (lv' := [(2, .int (x2 + 1)), (0, .ref (α 0)), (1, .int x1)]) dX2_leaveChildren_43 rfl rfl (by decide) rfl ?_
          refine r_goto X (tgt := 2) dX2_leaveChildren_46 (by decide) ?_
          refine r_sub (lv' := [(0, .ref (α 0)), (1, .int x1), (2, .int (x2 + 1))]) [1, 2, 0] rfl ?_
          exact ih x1 (x2 + 1) σ_30
        · refine r_aload_n X (j := 0) dX2_leaveChildren_36 rfl rfl ?_
          refine r_get X (ci := 2) (q0 := 0) (v := .ref (α 12)) inX2 rfl rfl 7 (by decide) rfl fl_X2_41 dX2_leaveChildren_37 ?_
          refine r_iload_n X (j := 2) dX2_leaveChildren_40 rfl rfl ?_
          refine r_iconst X (v := (-1)) dX2_leaveChildren_41 (by decide) ?_
          refine r_iast X (q0 := 12) (t0 := 0) (kk := 12) rfl (fun _ => rfl) rfl dX2_leaveChildren_42 ?_
          refine r_iinc X (j := 2) (v := (x2 + 1)) (lv' := [(2, .int (x2 + 1)), (0, .ref (α 0)), (1, .int x1)]) dX2_leaveChildren_43 rfl rfl (by decide) rfl ?_
          refine r_goto X (tgt := 2) dX2_leaveChildren_46 (by decide) ?_
          refine r_sub (lv' := [(0, .ref (α 0)), (1, .int x1), (2, .int (x2 + 1))]) [1, 2, 0] rfl ?_
          exact ih x1 (x2 + 1) (wr σ 12 x2 (-1))
      · refine r_iinc X (j := 2) (v := (x2 + 1)) (lv' := [(2, .int (x2 + 1)), (0, .ref (α 0)), (1, .int x1)]) dX2_leaveChildren_43 rfl rfl (by decide) rfl ?_
        refine r_goto X (tgt := 2) dX2_leaveChildren_46 (by decide) ?_
        refine r_sub (lv' := [(0, .ref (α 0)), (1, .int x1), (2, .int (x2 + 1))]) [1, 2, 0] rfl ?_
        exact ih x1 (x2 + 1) σ
set_option maxRecDepth 100000 in
set_option maxHeartbeats 4000000 in
theorem c_X2_leaveChildren (l : Launch) (D : va_G) (cI cZ : ClassId) (α : Nat → Nat) (A : Nat → Prop) (hJ : ∀ σ, va_D A ((kwX cI α) σ)) (x1 : Int32) (σ : KS) : Ct l D (tyA cI cZ) (kwX cI α) A yX2_leaveChildren cX2_leaveChildren 3 none 5 vV [.ref (α 0), .int x1] σ (m_X2_leaveChildren x1 σ) := by
  refine Ct.of (own := RX2) hJ (by decide) rfl (Nat.le_of_ble_eq_true rfl) ?_
  intro p e s m args below meth c X
  refine r_sub (lv' := [(0, .ref (α 0)), (1, .int x1)]) [0, 1] rfl ?_
  unfold m_X2_leaveChildren
  refine r_iconst X (v := 0) dX2_leaveChildren_0 (by decide) ?_
  refine r_istore_n X (lv' := [(2, .int 0), (0, .ref (α 0)), (1, .int x1)]) dX2_leaveChildren_1 rfl (by decide) rfl ?_
  refine r_sub (lv' := [(0, .ref (α 0)), (1, .int x1), (2, .int 0)]) [1, 2, 0] rfl ?_
  exact cl_X2_leaveChildren_2 l D cI cZ α A hJ X FU x1 0 σ
set_option maxRecDepth 100000 in
set_option maxHeartbeats 4000000 in
theorem c_X2_load (l : Launch) (D : va_G) (cI cZ : ClassId) (α : Nat → Nat) (A : Nat → Prop) (hJ : ∀ σ, va_D A ((kwX cI α) σ)) (x1 x2 : Int32) (σ : KS) : Ct l D (tyA cI cZ) (kwX cI α) A yX2_load cX2_load 3 (some .int) 5 vI [.ref (α 0), .int x1, .int x2] σ (m_X2_load x1 x2 σ) := by
  refine Ct.of (own := RX2) hJ (by decide) rfl (Nat.le_of_ble_eq_true rfl) ?_
  intro p e s m args below meth c X
  refine r_sub (lv' := [(0, .ref (α 0)), (1, .int x1), (2, .int x2)]) [0, 1, 2] rfl ?_
  unfold m_X2_load
  refine r_aload_n X (j := 0) dX2_load_0 rfl rfl ?_
  refine r_iload_n X (j := 1) dX2_load_1 rfl rfl ?_
  refine r_iload_n X (j := 2) dX2_load_2 rfl rfl ?_
  refine r_callSi X (n := 1) (As := [.int x2]) (st := [.int x1, .ref (α 0)]) (c_X2_pageOf l D cI cZ α A hJ x2 σ) ml_X2_76 sm_X2_pageOf ii_X2 co_X2_pageOf (by decide +kernel) ⟨Nat.le_of_ble_eq_true rfl, Nat.le_of_ble_eq_true rfl⟩ rfl rfl (Nat.le_of_ble_eq_true rfl) dX2_load_3 (fun r_3 σ_3 hc_3 => ?_)
  refine r_callVi X (q0 := 0) (ci := 2) (n := 2) (As := [.int x1, .int r_3]) (st := []) (c_X2_hasPage l D cI cZ α A hJ x1 r_3 σ_3) ml_X2_79 im_X2_hasPage se_X2_hasPage ii_X2 co_X2_hasPage (by decide +kernel) ⟨Nat.le_of_ble_eq_true rfl, Nat.le_of_ble_eq_true rfl⟩ rfl rfl rfl rfl (Nat.le_of_ble_eq_true rfl) dX2_load_6 (fun r_6 σ_6 hc_6 => ?_)
  refine r_if_ne X (tgt := 14) dX2_load_9 (by decide) (fun _ => ?_) (fun _ => ?_)
  · refine r_iconst X (v := 0) dX2_load_12 (by decide) ?_
    exact r_ireturn X dX2_load_13
  · refine r_aload_n X (j := 0) dX2_load_14 rfl rfl ?_
    refine r_aload_n X (j := 0) dX2_load_15 rfl rfl ?_
    refine r_iload_n X (j := 1) dX2_load_16 rfl rfl ?_
    refine r_iload_n X (j := 2) dX2_load_17 rfl rfl ?_
    refine r_callVi X (q0 := 0) (ci := 2) (n := 2) (As := [.int x1, .int x2]) (st := [.ref (α 0)]) (c_X2_wordIndex l D cI cZ α A hJ x1 x2 σ_6) ml_X2_82 im_X2_wordIndex se_X2_wordIndex ii_X2 co_X2_wordIndex (by decide +kernel) ⟨Nat.le_of_ble_eq_true rfl, Nat.le_of_ble_eq_true rfl⟩ rfl rfl rfl rfl (Nat.le_of_ble_eq_true rfl) dX2_load_18 (fun r_18 σ_18 hc_18 => ?_)
    refine r_callVi X (q0 := 0) (ci := 2) (n := 1) (As := [.int r_18]) (st := []) (c_X2_wordAt l D cI cZ α A hJ r_18 σ_18) ml_X2_86 im_X2_wordAt se_X2_wordAt ii_X2 co_X2_wordAt (by decide +kernel) ⟨Nat.le_of_ble_eq_true rfl, Nat.le_of_ble_eq_true rfl⟩ rfl rfl rfl rfl (Nat.le_of_ble_eq_true rfl) dX2_load_21 (fun r_21 σ_21 hc_21 => ?_)
    exact r_ireturn X dX2_load_24
