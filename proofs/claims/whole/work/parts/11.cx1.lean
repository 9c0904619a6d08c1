set_option maxRecDepth 100000 in
set_option maxHeartbeats 4000000 in
theorem cl_X2_isKernels_2 (l : Launch) (D : va_G) (cI cZ : ClassId) (α : Nat → Nat) (A : Nat → Prop) (hJ : ∀ σ, va_D A ((kwX cI α) σ)) {p : Program} {e : Env} {s : State} {m : MethodId} {args : Array Value} {below : List Frame} {meth : Method} {c : Code} (X : CX p s m args meth c cX2_isKernels 4 RX2 D (tyA cI cZ) (kwX cI α) A (some .boolean)) : ∀ (n : Nat) (x1 : Int32) (x2 : Int32) (σ : KS), Cr p l e (rmd 1) s m args below meth c 4 D (kwX cI α) A vI 2 [(0, .ref (α 0)), (1, .int x1), (2, .int x2)] [] σ (f_X2_isKernels_2 n x1 x2 σ) := by
  intro n
  induction n with
  | zero => intros; exact r_none
  | succ n ih =>
    intro x1 x2 σ
    rw [f_X2_isKernels_2]
    refine r_iload_n X (j := 2) dX2_isKernels_2 rfl rfl ?_
    refine r_bipush X (v := 7) dX2_isKernels_3 (by decide) ?_
    refine r_icmp_gt X (tgt := 39) dX2_isKernels_5 (by decide) (fun _ => ?_) (fun _ => ?_)
    · refine r_iconst X (v := 0) dX2_isKernels_39 (by decide) ?_
      exact r_zreturn X (by decide) dX2_isKernels_40
    · refine r_iload_n X (j := 1) dX2_isKernels_8 rfl rfl ?_
      refine r_iload_n X (j := 2) dX2_isKernels_9 rfl rfl ?_
      refine r_ishr X dX2_isKernels_10 ?_
      refine r_iload_n X (j := 2) dX2_isKernels_11 rfl rfl ?_
      refine r_ishl X dX2_isKernels_12 ?_
      refine r_istore_n X (lv' := [(3, .int ((x1 >>> (x2 &&& 31)) <<< (x2 &&& 31))), (0, .ref (α 0)), (1, .int x1), (2, .int x2)]) dX2_isKernels_13 rfl (by decide) rfl ?_
      refine r_iload_n X (j := 0) dX2_isKernels_14 rfl rfl ?_
      refine r_callSi X (n := 1) (As := [.int ((x1 >>> (x2 &&& 31)) <<< (x2 &&& 31))]) (st := []) (c_X2_isFrame l D cI cZ α A hJ ((x1 >>> (x2 &&& 31)) <<< (x2 &&& 31)) σ) ml_X2_124 sm_X2_isFrame ii_X2 co_X2_isFrame (by decide +kernel) ⟨Nat.le_of_ble_eq_true rfl, Nat.le_of_ble_eq_true rfl⟩ rfl rfl (Nat.le_of_ble_eq_true rfl) dX2_isKernels_15 (fun r_15 σ_15 hc_15 => ?_)
      refine r_if_eq X (tgt := 33) dX2_isKernels_18 (by decide) (fun _ => ?_) (fun _ => ?_)
      · refine r_iinc X (j := 3) (v := (x2 + 1)) (lv' := [(2, .int (x2 + 1)), (3, .int ((x1 >>> (x2 &&& 31)) <<< (x2 &&& 31))), (0, .ref (α 0)), (1, .int x1)]) dX2_isKernels_33 rfl rfl (by decide) rfl ?_
        refine r_goto X (tgt := 2) dX2_isKernels_36 (by decide) ?_
        refine r_sub (lv' := [(0, .ref (α 0)), (1, .int x1), (2, .int (x2 + 1))]) [2, 3, 0] rfl ?_
        exact ih x1 (x2 + 1) σ_15
      · refine r_aload_n X (j := 1) dX2_isKernels_21 rfl rfl ?_
        refine r_get X (ci := 2) (q0 := 0) (v := .ref (α 10)) inX2 rfl rfl 5 (by decide) rfl fl_X2_35 dX2_isKernels_22 ?_
        refine r_iload_n X (j := 0) dX2_isKernels_25 rfl rfl ?_
        refine r_iald X (q0 := 10) (t0 := 0) (kk := 10) rfl rfl dX2_isKernels_26 ?_
        refine r_iload_n X (j := 3) dX2_isKernels_27 rfl rfl ?_
        refine r_icmp_ne X (tgt := 33) dX2_isKernels_28 (by decide) (fun _ => ?_) (fun _ => ?_)
        · refine r_iconst X (v := 1) dX2_isKernels_31 (by decide) ?_
          exact r_zreturn X (by decide) dX2_isKernels_32
        · refine r_iinc X (j := 3) (v := (x2 + 1)) (lv' := [(2, .int (x2 + 1)), (3, .int ((x1 >>> (x2 &&& 31)) <<< (x2 &&& 31))), (0, .ref (α 0)), (1, .int x1)]) dX2_isKernels_33 rfl rfl (by decide) rfl ?_
          refine r_goto X (tgt := 2) dX2_isKernels_36 (by decide) ?_
          refine r_sub (lv' := [(0, .ref (α 0)), (1, .int x1), (2, .int (x2 + 1))]) [2, 3, 0] rfl ?_
          exact ih x1 (x2 + 1) σ_15
set_option maxRecDepth 100000 in
set_option maxHeartbeats 4000000 in
theorem c_X2_isKernels (l : Launch) (D : va_G) (cI cZ : ClassId) (α : Nat → Nat) (A : Nat → Prop) (hJ : ∀ σ, va_D A ((kwX cI α) σ)) (x1 : Int32) (σ : KS) : Ct l D (tyA cI cZ) (kwX cI α) A yX2_isKernels cX2_isKernels 4 (some .boolean) 1 vI [.ref (α 0), .int x1] σ (m_X2_isKernels x1 σ) := by
  refine Ct.of (own := RX2) hJ (by decide) rfl (Nat.le_of_ble_eq_true rfl) ?_
  intro p e s m args below meth c X
  refine r_sub (lv' := [(0, .ref (α 0)), (1, .int x1)]) [0, 1] rfl ?_
  unfold m_X2_isKernels
  refine r_iconst X (v := 0) dX2_isKernels_0 (by decide) ?_
  refine r_istore_n X (lv' := [(2, .int 0), (0, .ref (α 0)), (1, .int x1)]) dX2_isKernels_1 rfl (by decide) rfl ?_
  refine r_sub (lv' := [(0, .ref (α 0)), (1, .int x1), (2, .int 0)]) [1, 2, 0] rfl ?_
  exact cl_X2_isKernels_2 l D cI cZ α A hJ X FU x1 0 σ
set_option maxRecDepth 100000 in
set_option maxHeartbeats 4000000 in
theorem c_X2_isLive (l : Launch) (D : va_G) (cI cZ : ClassId) (α : Nat → Nat) (A : Nat → Prop) (hJ : ∀ σ, va_D A ((kwX cI α) σ)) (x1 : Int32) (σ : KS) : Ct l D (tyA cI cZ) (kwX cI α) A yX2_isLive cX2_isLive 2 (some .boolean) 1 vI [.ref (α 0), .int x1] σ (m_X2_isLive x1 σ) := by
  refine Ct.of (own := RX2) hJ (by decide) rfl (Nat.le_of_ble_eq_true rfl) ?_
  intro p e s m args below meth c X
  refine r_sub (lv' := [(0, .ref (α 0)), (1, .int x1)]) [0, 1] rfl ?_
  unfold m_X2_isLive
  refine r_iload_n X (j := 1) dX2_isLive_0 rfl rfl ?_
  refine r_callSi X (n := 1) (As := [.int x1]) (st := []) (c_X2_isNumber l D cI cZ α A hJ x1 σ) ml_X2_145 sm_X2_isNumber ii_X2 co_X2_isNumber (by decide +kernel) ⟨Nat.le_of_ble_eq_true rfl, Nat.le_of_ble_eq_true rfl⟩ rfl rfl (Nat.le_of_ble_eq_true rfl) dX2_isLive_1 (fun r_1 σ_1 hc_1 => ?_)
  refine r_if_eq X (tgt := 21) dX2_isLive_4 (by decide) (fun _ => ?_) (fun _ => ?_)
  · refine r_iconst X (v := 0) dX2_isLive_21 (by decide) ?_
    exact r_zreturn X (by decide) dX2_isLive_22
  · refine r_aload_n X (j := 0) dX2_isLive_7 rfl rfl ?_
    refine r_get X (ci := 2) (q0 := 0) (v := .ref (α 11)) inX2 rfl rfl 6 (by decide) rfl fl_X2_38 dX2_isLive_8 ?_
    refine r_iload_n X (j := 1) dX2_isLive_11 rfl rfl ?_
    refine r_iald X (q0 := 11) (t0 := 0) (kk := 11) rfl rfl dX2_isLive_12 ?_
    refine r_iconst X (v := 1) dX2_isLive_13 (by decide) ?_
    refine r_icmp_ne X (tgt := 21) dX2_isLive_14 (by decide) (fun _ => ?_) (fun _ => ?_)
    · refine r_iconst X (v := 1) dX2_isLive_17 (by decide) ?_
      refine r_goto X (tgt := 22) dX2_isLive_18 (by decide) ?_
      exact r_zreturn X (by decide) dX2_isLive_22
    · refine r_iconst X (v := 0) dX2_isLive_21 (by decide) ?_
      exact r_zreturn X (by decide) dX2_isLive_22
set_option maxRecDepth 100000 in
set_option maxHeartbeats 4000000 in
theorem c_X2_pageIndex (l : Launch) (D : va_G) (cI cZ : ClassId) (α : Nat → Nat) (A : Nat → Prop) (hJ : ∀ σ, va_D A ((kwX cI α) σ)) (x1 x2 : Int32) (σ : KS) : Ct l D (tyA cI cZ) (kwX cI α) A yX2_pageIndex cX2_pageIndex 3 (some .int) 1 vI [.ref (α 0), .int x1, .int x2] σ (m_X2_pageIndex x1 x2 σ) := by
  refine Ct.of (own := RX2) hJ (by decide) rfl (Nat.le_of_ble_eq_true rfl) ?_
  intro p e s m args below meth c X
  refine r_sub (lv' := [(0, .ref (α 0)), (1, .int x1), (2, .int x2)]) [0, 1, 2] rfl ?_
  unfold m_X2_pageIndex
  refine r_aload_n X (j := 0) dX2_pageIndex_0 rfl rfl ?_
  refine r_aload_n X (j := 0) dX2_pageIndex_1 rfl rfl ?_
  refine r_iload_n X (j := 1) dX2_pageIndex_2 rfl rfl ?_
  refine r_iload_n X (j := 2) dX2_pageIndex_3 rfl rfl ?_
  refine r_callVi X (q0 := 0) (ci := 2) (n := 2) (As := [.int x1, .int x2]) (st := [.ref (α 0)]) (c_X2_tableIndex l D cI cZ α A hJ x1 x2 σ) ml_X2_190 im_X2_tableIndex se_X2_tableIndex ii_X2 co_X2_tableIndex (by decide +kernel) ⟨Nat.le_of_ble_eq_true rfl, Nat.le_of_ble_eq_true rfl⟩ rfl rfl rfl rfl (Nat.le_of_ble_eq_true rfl) dX2_pageIndex_4 (fun r_4 σ_4 hc_4 => ?_)
  refine r_callVi X (q0 := 0) (ci := 2) (n := 1) (As := [.int r_4]) (st := []) (c_X2_wordAt l D cI cZ α A hJ r_4 σ_4) ml_X2_86 im_X2_wordAt se_X2_wordAt ii_X2 co_X2_wordAt (by decide +kernel) ⟨Nat.le_of_ble_eq_true rfl, Nat.le_of_ble_eq_true rfl⟩ rfl rfl rfl rfl (Nat.le_of_ble_eq_true rfl) dX2_pageIndex_7 (fun r_7 σ_7 hc_7 => ?_)
  refine r_bipush X (v := 16) dX2_pageIndex_10 (by decide) ?_
  refine r_imul X dX2_pageIndex_12 ?_
  refine r_iload_n X (j := 2) dX2_pageIndex_13 rfl rfl ?_
  refine r_bipush X (v := 16) dX2_pageIndex_14 (by decide) ?_
  refine r_irem X dX2_pageIndex_16 (by decide) ?_
  refine r_iadd X dX2_pageIndex_17 ?_
  exact r_ireturn X dX2_pageIndex_18
set_option maxRecDepth 100000 in
set_option maxHeartbeats 4000000 in
theorem c_X2_process (l : Launch) (D : va_G) (cI cZ : ClassId) (α : Nat → Nat) (A : Nat → Prop) (hJ : ∀ σ, va_D A ((kwX cI α) σ)) (x1 x2 : Int32) (σ : KS) : Ct l D (tyA cI cZ) (kwX cI α) A yX2_process cX2_process 3 (some .int) 1 vI [.ref (α 0), .int x1, .int x2] σ (m_X2_process x1 x2 σ) := by
  refine Ct.of (own := RX2) hJ (by decide) rfl (Nat.le_of_ble_eq_true rfl) ?_
  intro p e s m args below meth c X
  refine r_sub (lv' := [(0, .ref (α 0)), (1, .int x1), (2, .int x2)]) [0, 1, 2] rfl ?_
  unfold m_X2_process
  refine r_iload_n X (j := 1) dX2_process_0 rfl rfl ?_
  refine r_callSi X (n := 1) (As := [.int x1]) (st := []) (c_X2_isNumber l D cI cZ α A hJ x1 σ) ml_X2_145 sm_X2_isNumber ii_X2 co_X2_isNumber (by decide +kernel) ⟨Nat.le_of_ble_eq_true rfl, Nat.le_of_ble_eq_true rfl⟩ rfl rfl (Nat.le_of_ble_eq_true rfl) dX2_process_1 (fun r_1 σ_1 hc_1 => ?_)
  refine r_if_ne X (tgt := 10) dX2_process_4 (by decide) (fun _ => ?_) (fun _ => ?_)
  · refine r_bipush X (v := (-2)) dX2_process_7 (by decide) ?_
    exact r_ireturn X dX2_process_9
  · refine r_iload_n X (j := 2) dX2_process_10 rfl rfl ?_
    refine r_ite (fun hs0 => ?_) (fun hs0 => ?_)
    · refine r_tabIn X (off := 33) (tgt := 44) dX2_process_11 (by rw [hs0]; decide) (by rw [hs0]; decide) (by rw [hs0]; decide) (by decide) ?_
      refine r_aload_n X (j := 0) dX2_process_44 rfl rfl ?_
      refine r_get X (ci := 2) (q0 := 0) (v := .ref (α 11)) inX2 rfl rfl 6 (by decide) rfl fl_X2_38 dX2_process_45 ?_
      refine r_iload_n X (j := 1) dX2_process_48 rfl rfl ?_
      refine r_iald X (q0 := 11) (t0 := 0) (kk := 11) rfl rfl dX2_process_49 ?_
      exact r_ireturn X dX2_process_50
    · refine r_ite (fun hs1 => ?_) (fun hs1 => ?_)
      · refine r_tabIn X (off := 40) (tgt := 51) dX2_process_11 (by rw [hs1]; decide) (by rw [hs1]; decide) (by rw [hs1]; decide) (by decide) ?_
        refine r_aload_n X (j := 0) dX2_process_51 rfl rfl ?_
        refine r_get X (ci := 2) (q0 := 0) (v := .ref (α 14)) inX2 rfl rfl 9 (by decide) rfl fl_X2_47 dX2_process_52 ?_
        refine r_iload_n X (j := 1) dX2_process_55 rfl rfl ?_
        refine r_iald X (q0 := 14) (t0 := 0) (kk := 14) rfl rfl dX2_process_56 ?_
        exact r_ireturn X dX2_process_57
      · refine r_ite (fun hs2 => ?_) (fun hs2 => ?_)
        · refine r_tabIn X (off := 47) (tgt := 58) dX2_process_11 (by rw [hs2]; decide) (by rw [hs2]; decide) (by rw [hs2]; decide) (by decide) ?_
          refine r_aload_n X (j := 0) dX2_process_58 rfl rfl ?_
          refine r_get X (ci := 2) (q0 := 0) (v := .ref (α 12)) inX2 rfl rfl 7 (by decide) rfl fl_X2_41 dX2_process_59 ?_
          refine r_iload_n X (j := 1) dX2_process_62 rfl rfl ?_
          refine r_iald X (q0 := 12) (t0 := 0) (kk := 12) rfl rfl dX2_process_63 ?_
          exact r_ireturn X dX2_process_64
        · refine r_ite (fun hs3 => ?_) (fun hs3 => ?_)
          · refine r_tabIn X (off := 54) (tgt := 65) dX2_process_11 (by rw [hs3]; decide) (by rw [hs3]; decide) (by rw [hs3]; decide) (by decide) ?_
            refine r_aload_n X (j := 0) dX2_process_65 rfl rfl ?_
            refine r_iload_n X (j := 1) dX2_process_66 rfl rfl ?_
            refine r_callVi X (q0 := 0) (ci := 2) (n := 1) (As := [.int x1]) (st := []) (c_X2_childrenOf l D cI cZ α A hJ x1 σ_1) ml_X2_105 im_X2_childrenOf se_X2_childrenOf ii_X2 co_X2_childrenOf (by decide +kernel) ⟨Nat.le_of_ble_eq_true rfl, Nat.le_of_ble_eq_true rfl⟩ rfl rfl rfl rfl (Nat.le_of_ble_eq_true rfl) dX2_process_67 (fun r_67 σ_67 hc_67 => ?_)
            exact r_ireturn X dX2_process_70
          · refine r_ite (fun hs4 => ?_) (fun hs4 => ?_)
            · refine r_tabIn X (off := 60) (tgt := 71) dX2_process_11 (by rw [hs4]; decide) (by rw [hs4]; decide) (by rw [hs4]; decide) (by decide) ?_
              refine r_aload_n X (j := 0) dX2_process_71 rfl rfl ?_
              refine r_iload_n X (j := 1) dX2_process_72 rfl rfl ?_
              refine r_callVi X (q0 := 0) (ci := 2) (n := 1) (As := [.int x1]) (st := []) (c_X2_placeInRow l D cI cZ α A hJ x1 σ_1) ml_X2_148 im_X2_placeInRow se_X2_placeInRow ii_X2 co_X2_placeInRow (by decide +kernel) ⟨Nat.le_of_ble_eq_true rfl, Nat.le_of_ble_eq_true rfl⟩ rfl rfl rfl rfl (Nat.le_of_ble_eq_true rfl) dX2_process_73 (fun r_73 σ_73 hc_73 => ?_)
              exact r_ireturn X dX2_process_76
            · refine r_tabOut X (tgt := 77) dX2_process_11 (by have hq0 := lv_neT hs0 (a := 0) (by decide); have hq1 := lv_neT hs1 (a := 1) (by decide); have hq2 := lv_neT hs2 (a := 2) (by decide); have hq3 := lv_neT hs3 (a := 3) (by decide); have hq4 := lv_neT hs4 (a := 4) (by decide); omega) (by decide) ?_
              refine r_bipush X (v := (-2)) dX2_process_77 (by decide) ?_
              exact r_ireturn X dX2_process_79
set_option maxRecDepth 100000 in
set_option maxHeartbeats 4000000 in
theorem c_X2_tick (l : Launch) (D : va_G) (cI cZ : ClassId) (α : Nat → Nat) (A : Nat → Prop) (hJ : ∀ σ, va_D A ((kwX cI α) σ)) (σ : KS) : Ct l D (tyA cI cZ) (kwX cI α) A yX2_tick cX2_tick 2 (some .int) 1 vI [.ref (α 0)] σ (m_X2_tick σ) := by
  refine Ct.of (own := RX2) hJ (by decide) rfl (Nat.le_of_ble_eq_true rfl) ?_
  intro p e s m args below meth c X
  refine r_sub (lv' := [(0, .ref (α 0))]) [0] rfl ?_
  unfold m_X2_tick
  refine r_aload_n X (j := 0) dX2_tick_0 rfl rfl ?_
  refine r_get X (ci := 2) (q0 := 0) (v := .int (gv σ 0)) inX2 rfl rfl 12 (by decide) rfl fl_X2_108 dX2_tick_1 ?_
  refine r_if_ne X (tgt := 9) dX2_tick_4 (by decide) (fun _ => ?_) (fun _ => ?_)
  · refine r_iconst X (v := (-1)) dX2_tick_7 (by decide) ?_
    exact r_ireturn X dX2_tick_8
  · refine r_aload_n X (j := 0) dX2_tick_9 rfl rfl ?_
    refine r_get X (ci := 2) (q0 := 0) (v := .ref (α 16)) inX2 rfl rfl 11 (by decide) rfl fl_X2_53 dX2_tick_10 ?_
    refine r_iconst X (v := 0) dX2_tick_13 (by decide) ?_
    refine r_iald X (q0 := 16) (t0 := 0) (kk := 16) rfl rfl dX2_tick_14 ?_
    refine r_istore_n X (lv' := [(1, .int (rd σ 16 0)), (0, .ref (α 0))]) dX2_tick_15 rfl (by decide) rfl ?_
    refine r_aload_n X (j := 1) dX2_tick_16 rfl rfl ?_
    refine r_iload_n X (j := 0) dX2_tick_17 rfl rfl ?_
    refine r_callVv X (q0 := 0) (ci := 2) (n := 1) (As := [.int (rd σ 16 0)]) (st := []) (c_X2_leaveRow l D cI cZ α A hJ (rd σ 16 0) σ) ml_X2_95 im_X2_leaveRow se_X2_leaveRow ii_X2 co_X2_leaveRow (by decide +kernel) ⟨Nat.le_of_ble_eq_true rfl, Nat.le_of_ble_eq_true rfl⟩ rfl rfl rfl rfl (Nat.le_of_ble_eq_true rfl) dX2_tick_18 (fun r_18 σ_18 hc_18 => ?_)
    refine r_aload_n X (j := 1) dX2_tick_21 rfl rfl ?_
    refine r_iload_n X (j := 0) dX2_tick_22 rfl rfl ?_
    refine r_callVv X (q0 := 0) (ci := 2) (n := 1) (As := [.int (rd σ 16 0)]) (st := []) (c_X2_joinRow l D cI cZ α A hJ (rd σ 16 0) σ_18) ml_X2_112 im_X2_joinRow se_X2_joinRow ii_X2 co_X2_joinRow (by decide +kernel) ⟨Nat.le_of_ble_eq_true rfl, Nat.le_of_ble_eq_true rfl⟩ rfl rfl rfl rfl (Nat.le_of_ble_eq_true rfl) dX2_tick_23 (fun r_23 σ_23 hc_23 => ?_)
    refine r_aload_n X (j := 1) dX2_tick_26 rfl rfl ?_
    refine r_dup X dX2_tick_27 rfl ?_
    refine r_get X (ci := 2) (q0 := 0) (v := .int (gv σ_23 3)) inX2 rfl rfl 15 (by decide) rfl fl_X2_115 dX2_tick_28 ?_
    refine r_iconst X (v := 1) dX2_tick_31 (by decide) ?_
    refine r_iadd X dX2_tick_32 ?_
    refine r_put X (ci := 2) (q0 := 0) (j := 3) inX2 rfl tyX2_ok nmX2 rfl 15 (by decide) rfl fl_X2_115 rfl (by decide +kernel) (Nat.le_of_ble_eq_true rfl) dX2_tick_33 ?_
    refine r_aload_n X (j := 1) dX2_tick_36 rfl rfl ?_
    refine r_get X (ci := 2) (q0 := 0) (v := .ref (α 16)) inX2 rfl rfl 11 (by decide) rfl fl_X2_53 dX2_tick_37 ?_
    refine r_iconst X (v := 0) dX2_tick_40 (by decide) ?_
    refine r_iald X (q0 := 16) (t0 := 0) (kk := 16) rfl rfl dX2_tick_41 ?_
    exact r_ireturn X dX2_tick_42
set_option maxRecDepth 100000 in
set_option maxHeartbeats 4000000 in
theorem c_X2_told (l : Launch) (D : va_G) (cI cZ : ClassId) (α : Nat → Nat) (A : Nat → Prop) (hJ : ∀ σ, va_D A ((kwX cI α) σ)) (x1 : Int32) (σ : KS) : Ct l D (tyA cI cZ) (kwX cI α) A yX2_told cX2_told 2 (some .int) 1 vI [.ref (α 0), .int x1] σ (m_X2_told x1 σ) := by
  refine Ct.of (own := RX2) hJ (by decide) rfl (Nat.le_of_ble_eq_true rfl) ?_
  intro p e s m args below meth c X
  refine r_sub (lv' := [(0, .ref (α 0)), (1, .int x1)]) [0, 1] rfl ?_
  unfold m_X2_told
  refine r_iload_n X (j := 1) dX2_told_0 rfl rfl ?_
  refine r_ite (fun hs0 => ?_) (fun hs0 => ?_)
  · refine r_tabIn X (off := 35) (tgt := 36) dX2_told_1 (by rw [hs0]; decide) (by rw [hs0]; decide) (by rw [hs0]; decide) (by decide) ?_
    refine r_aload_n X (j := 0) dX2_told_36 rfl rfl ?_
    refine r_iconst X (v := 1) dX2_told_37 (by decide) ?_
    refine r_callVi X (q0 := 0) (ci := 2) (n := 1) (As := [.int 1]) (st := []) (c_X2_countInState l D cI cZ α A hJ 1 σ) ml_X2_151 im_X2_countInState se_X2_countInState ii_X2 co_X2_countInState (by decide +kernel) ⟨Nat.le_of_ble_eq_true rfl, Nat.le_of_ble_eq_true rfl⟩ rfl rfl rfl rfl (Nat.le_of_ble_eq_true rfl) dX2_told_38 (fun r_38 σ_38 hc_38 => ?_)
    exact r_ireturn X dX2_told_41
  · refine r_ite (fun hs1 => ?_) (fun hs1 => ?_)
    · refine r_tabIn X (off := 41) (tgt := 42) dX2_told_1 (by rw [hs1]; decide) (by rw [hs1]; decide) (by rw [hs1]; decide) (by decide) ?_
      refine r_aload_n X (j := 0) dX2_told_42 rfl rfl ?_
      refine r_iconst X (v := 2) dX2_told_43 (by decide) ?_
      refine r_callVi X (q0 := 0) (ci := 2) (n := 1) (As := [.int 2]) (st := []) (c_X2_countInState l D cI cZ α A hJ 2 σ) ml_X2_151 im_X2_countInState se_X2_countInState ii_X2 co_X2_countInState (by decide +kernel) ⟨Nat.le_of_ble_eq_true rfl, Nat.le_of_ble_eq_true rfl⟩ rfl rfl rfl rfl (Nat.le_of_ble_eq_true rfl) dX2_told_44 (fun r_44 σ_44 hc_44 => ?_)
      exact r_ireturn X dX2_told_47
    · refine r_ite (fun hs2 => ?_) (fun hs2 => ?_)
      · refine r_tabIn X (off := 47) (tgt := 48) dX2_told_1 (by rw [hs2]; decide) (by rw [hs2]; decide) (by rw [hs2]; decide) (by decide) ?_
        refine r_aload_n X (j := 0) dX2_told_48 rfl rfl ?_
        refine r_get X (ci := 2) (q0 := 0) (v := .int (gv σ 1)) inX2 rfl rfl 13 (by decide) rfl fl_X2_154 dX2_told_49 ?_
        exact r_ireturn X dX2_told_52
      · refine r_ite (fun hs3 => ?_) (fun hs3 => ?_)
        · refine r_tabIn X (off := 52) (tgt := 53) dX2_told_1 (by rw [hs3]; decide) (by rw [hs3]; decide) (by rw [hs3]; decide) (by decide) ?_
          refine r_aload_n X (j := 0) dX2_told_53 rfl rfl ?_
          refine r_get X (ci := 2) (q0 := 0) (v := .int (gv σ 2)) inX2 rfl rfl 14 (by decide) rfl fl_X2_157 dX2_told_54 ?_
          exact r_ireturn X dX2_told_57
        · refine r_ite (fun hs4 => ?_) (fun hs4 => ?_)
          · refine r_tabIn X (off := 57) (tgt := 58) dX2_told_1 (by rw [hs4]; decide) (by rw [hs4]; decide) (by rw [hs4]; decide) (by decide) ?_
            refine r_aload_n X (j := 0) dX2_told_58 rfl rfl ?_
            refine r_get X (ci := 2) (q0 := 0) (v := .int (gv σ 3)) inX2 rfl rfl 15 (by decide) rfl fl_X2_115 dX2_told_59 ?_
            exact r_ireturn X dX2_told_62
          · refine r_tabOut X (tgt := 63) dX2_told_1 (by have hq0 := lv_neT hs0 (a := 0) (by decide); have hq1 := lv_neT hs1 (a := 1) (by decide); have hq2 := lv_neT hs2 (a := 2) (by decide); have hq3 := lv_neT hs3 (a := 3) (by decide); have hq4 := lv_neT hs4 (a := 4) (by decide); omega) (by decide) ?_
            refine r_bipush X (v := (-2)) dX2_told_63 (by decide) ?_
            exact r_ireturn X dX2_told_65
set_option maxRecDepth 100000 in
set_option maxHeartbeats 4000000 in
theorem cl_X0_giveBlock_5 (l : Launch) (D : va_G) (cI cZ : ClassId) (α : Nat → Nat) (A : Nat → Prop) (hJ : ∀ σ, va_D A ((kwX cI α) σ)) {p : Program} {e : Env} {s : State} {m : MethodId} {args : Array Value} {below : List Frame} {meth : Method} {c : Code} (X : CX p s m args meth c cX0_giveBlock 5 RX0 D (tyA cI cZ) (kwX cI α) A none) : ∀ (n : Nat) (x1 : Int32) (x2 : Int32) (x3 : Int32) (x4 : Int32) (σ : KS), Cr p l e (rmd 2) s m args below meth c 5 D (kwX cI α) A vV 5 [(0, .ref (α 1)), (1, .int x1), (2, .int x2), (3, .int x3), (4, .int x4)] [] σ (f_X0_giveBlock_5 n x1 x2 x3 x4 σ) := by
  intro n
  induction n with
  | zero => intros; exact r_none
  | succ n ih =>
    intro x1 x2 x3 x4 σ
    rw [f_X0_giveBlock_5]
    refine r_iload X (j := 4) dX0_giveBlock_5 rfl ?_
    refine r_bipush X (v := 7) dX0_giveBlock_7 (by decide) ?_
    refine r_icmp_ge X (tgt := 54) dX0_giveBlock_9 (by decide) (fun _ => ?_) (fun _ => ?_)
    · refine r_aload_n X (j := 0) dX0_giveBlock_54 rfl rfl ?_
      refine r_iload_n X (j := 3) dX0_giveBlock_55 rfl rfl ?_
      refine r_iload X (j := 4) dX0_giveBlock_56 rfl ?_
      refine r_callVv X (q0 := 1) (ci := 0) (n := 2) (As := [.int x3, .int x4]) (st := []) (c_X0_putIn l D cI cZ α A hJ x3 x4 σ) ml_X0_30 im_X0_putIn se_X0_putIn ii_X0 co_X0_putIn (by decide +kernel) ⟨Nat.le_of_ble_eq_true rfl, Nat.le_of_ble_eq_true rfl⟩ rfl rfl rfl rfl (Nat.le_of_ble_eq_true rfl) dX0_giveBlock_58 (fun r_58 σ_58 hc_58 => ?_)
      exact r_return X dX0_giveBlock_61
    · refine r_aload_n X (j := 0) dX0_giveBlock_12 rfl rfl ?_
      refine r_iload_n X (j := 3) dX0_giveBlock_13 rfl rfl ?_
      refine r_iconst X (v := 1) dX0_giveBlock_14 (by decide) ?_
      refine r_iload X (j := 4) dX0_giveBlock_15 rfl ?_
      refine r_ishl X dX0_giveBlock_17 ?_
      refine r_ixor X dX0_giveBlock_18 ?_
      refine r_iload X (j := 4) dX0_giveBlock_19 rfl ?_
      refine r_callVi X (q0 := 1) (ci := 0) (n := 2) (As := [.int (x3 ^^^ ((1 : Int32) <<< (x4 &&& 31))), .int x4]) (st := []) (c_X0_isFreeBlock l D cI cZ α A hJ (x3 ^^^ ((1 : Int32) <<< (x4 &&& 31))) x4 σ) ml_X0_33 im_X0_isFreeBlock se_X0_isFreeBlock ii_X0 co_X0_isFreeBlock (by decide +kernel) ⟨Nat.le_of_ble_eq_true rfl, Nat.le_of_ble_eq_true rfl⟩ rfl rfl rfl rfl (Nat.le_of_ble_eq_true rfl) dX0_giveBlock_21 (fun r_21 σ_21 hc_21 => ?_)
      refine r_if_eq X (tgt := 54) dX0_giveBlock_24 (by decide) (fun _ => ?_) (fun _ => ?_)
      · refine r_aload_n X (j := 0) dX0_giveBlock_54 rfl rfl ?_
        refine r_iload_n X (j := 3) dX0_giveBlock_55 rfl rfl ?_
        refine r_iload X (j := 4) dX0_giveBlock_56 rfl ?_
        refine r_callVv X (q0 := 1) (ci := 0) (n := 2) (As := [.int x3, .int x4]) (st := []) (c_X0_putIn l D cI cZ α A hJ x3 x4 σ_21) ml_X0_30 im_X0_putIn se_X0_putIn ii_X0 co_X0_putIn (by decide +kernel) ⟨Nat.le_of_ble_eq_true rfl, Nat.le_of_ble_eq_true rfl⟩ rfl rfl rfl rfl (Nat.le_of_ble_eq_true rfl) dX0_giveBlock_58 (fun r_58 σ_58 hc_58 => ?_)
        exact r_return X dX0_giveBlock_61
      · refine r_aload_n X (j := 0) dX0_giveBlock_27 rfl rfl ?_
        refine r_iload_n X (j := 3) dX0_giveBlock_28 rfl rfl ?_
        refine r_iconst X (v := 1) dX0_giveBlock_29 (by decide) ?_
        refine r_iload X (j := 4) dX0_giveBlock_30 rfl ?_
        refine r_ishl X dX0_giveBlock_32 ?_
        refine r_ixor X dX0_giveBlock_33 ?_
        refine r_iload X (j := 4) dX0_giveBlock_34 rfl ?_
        refine r_callVv X (q0 := 1) (ci := 0) (n := 2) (As := [.int (x3 ^^^ ((1 : Int32) <<< (x4 &&& 31))), .int x4]) (st := []) (c_X0_leaveOut l D cI cZ α A hJ (x3 ^^^ ((1 : Int32) <<< (x4 &&& 31))) x4 σ_21) ml_X0_26 im_X0_leaveOut se_X0_leaveOut ii_X0 co_X0_leaveOut (by decide +kernel) ⟨Nat.le_of_ble_eq_true rfl, Nat.le_of_ble_eq_true rfl⟩ rfl rfl rfl rfl (Nat.le_of_ble_eq_true rfl) dX0_giveBlock_36 (fun r_36 σ_36 hc_36 => ?_)
        refine r_iload_n X (j := 3) dX0_giveBlock_39 rfl rfl ?_
        refine r_iconst X (v := 1) dX0_giveBlock_40 (by decide) ?_
        refine r_iload X (j := 4) dX0_giveBlock_41 rfl ?_
        refine r_ishl X dX0_giveBlock_43 ?_
        refine r_iconst X (v := (-1)) dX0_giveBlock_44 (by decide) ?_
        refine r_ixor X dX0_giveBlock_45 ?_
        refine r_iand X dX0_giveBlock_46 ?_
        refine r_istore_n X (lv' := [(3, .int (x3 &&& (((1 : Int32) <<< (x4 &&& 31)) ^^^ (-1)))), (0, .ref (α 1)), (1, .int x1), (2, .int x2), (4, .int x4)]) dX0_giveBlock_47 rfl (by decide) rfl ?_
        refine r_iinc X (j := 4) (v := (x4 + 1)) (lv' := [(4, .int (x4 + 1)), (3, .int (x3 &&& (((1 : Int32) <<< (x4 &&& 31)) ^^^ (-1)))), (0, .ref (α 1)), (1, .int x1), (2, .int x2)]) dX0_giveBlock_48 rfl rfl (by decide) rfl ?_
        refine r_goto X (tgt := 5) dX0_giveBlock_51 (by decide) ?_
        refine r_sub (lv' := [(0, .ref (α 1)), (1, .int x1), (2, .int x2), (3, .int (x3 &&& (((1 : Int32) <<< (x4 &&& 31)) ^^^ (-1)))), (4, .int (x4 + 1))]) [2, 3, 4, 1, 0] rfl ?_
        exact ih x1 x2 (x3 &&& (((1 : Int32) <<< (x4 &&& 31)) ^^^ (-1))) (x4 + 1) σ_36
set_option maxRecDepth 100000 in
set_option maxHeartbeats 4000000 in
theorem c_X0_giveBlock (l : Launch) (D : va_G) (cI cZ : ClassId) (α : Nat → Nat) (A : Nat → Prop) (hJ : ∀ σ, va_D A ((kwX cI α) σ)) (x1 x2 : Int32) (σ : KS) : Ct l D (tyA cI cZ) (kwX cI α) A yX0_giveBlock cX0_giveBlock 5 none 2 vV [.ref (α 1), .int x1, .int x2] σ (m_X0_giveBlock x1 x2 σ) := by
  refine Ct.of (own := RX0) hJ (by decide) rfl (Nat.le_of_ble_eq_true rfl) ?_
  intro p e s m args below meth c X
  refine r_sub (lv' := [(0, .ref (α 1)), (1, .int x1), (2, .int x2)]) [0, 1, 2] rfl ?_
  unfold m_X0_giveBlock
  refine r_iload_n X (j := 1) dX0_giveBlock_0 rfl rfl ?_
  refine r_istore_n X (lv' := [(3, .int x1), (0, .ref (α 1)), (1, .int x1), (2, .int x2)]) dX0_giveBlock_1 rfl (by decide) rfl ?_
  refine r_iload_n X (j := 3) dX0_giveBlock_2 rfl rfl ?_
  refine r_istore X (lv' := [(4, .int x2), (3, .int x1), (0, .ref (α 1)), (1, .int x1), (2, .int x2)]) dX0_giveBlock_3 (by decide) rfl ?_
  refine r_sub (lv' := [(0, .ref (α 1)), (1, .int x1), (2, .int x2), (3, .int x1), (4, .int x2)]) [2, 3, 4, 1, 0] rfl ?_
  exact cl_X0_giveBlock_5 l D cI cZ α A hJ X FU x1 x2 x1 x2 σ
set_option maxRecDepth 100000 in
set_option maxHeartbeats 4000000 in
theorem cl_X0_takeBlock_30 (l : Launch) (D : va_G) (cI cZ : ClassId) (α : Nat → Nat) (A : Nat → Prop) (hJ : ∀ σ, va_D A ((kwX cI α) σ)) {p : Program} {e : Env} {s : State} {m : MethodId} {args : Array Value} {below : List Frame} {meth : Method} {c : Code} (X : CX p s m args meth c cX0_takeBlock 5 RX0 D (tyA cI cZ) (kwX cI α) A (some .int)) : ∀ (n : Nat) (x1 : Int32) (x2 : Int32) (x3 : Int32) (x4 : Int32) (σ : KS), Cr p l e (rmd 2) s m args below meth c 5 D (kwX cI α) A vI 30 [(0, .ref (α 1)), (1, .int x1), (2, .int x2), (3, .int x3), (4, .int x4)] [] σ (f_X0_takeBlock_30 n x1 x2 x3 x4 σ) := by
  intro n
  induction n with
  | zero => intros; exact r_none
  | succ n ih =>
    intro x1 x2 x3 x4 σ
    rw [f_X0_takeBlock_30]
    refine r_iload X (j := 4) dX0_takeBlock_30 rfl ?_
    refine r_iload_n X (j := 1) dX0_takeBlock_32 rfl rfl ?_
    refine r_icmp_lt X (tgt := 54) dX0_takeBlock_33 (by decide) (fun _ => ?_) (fun _ => ?_)
    · refine r_iload_n X (j := 3) dX0_takeBlock_54 rfl rfl ?_
      exact r_ireturn X dX0_takeBlock_55
    · refine r_aload_n X (j := 0) dX0_takeBlock_36 rfl rfl ?_
      refine r_iload_n X (j := 3) dX0_takeBlock_37 rfl rfl ?_
      refine r_iconst X (v := 1) dX0_takeBlock_38 (by decide) ?_
      refine r_iload X (j := 4) dX0_takeBlock_39 rfl ?_
      refine r_ishl X dX0_takeBlock_41 ?_
      refine r_iadd X dX0_takeBlock_42 ?_
      refine r_iload X (j := 4) dX0_takeBlock_43 rfl ?_
      refine r_callVv X (q0 := 1) (ci := 0) (n := 2) (As := [.int (x3 + ((1 : Int32) <<< (x4 &&& 31))), .int x4]) (st := []) (c_X0_putIn l D cI cZ α A hJ (x3 + ((1 : Int32) <<< (x4 &&& 31))) x4 σ) ml_X0_30 im_X0_putIn se_X0_putIn ii_X0 co_X0_putIn (by decide +kernel) ⟨Nat.le_of_ble_eq_true rfl, Nat.le_of_ble_eq_true rfl⟩ rfl rfl rfl rfl (Nat.le_of_ble_eq_true rfl) dX0_takeBlock_45 (fun r_45 σ_45 hc_45 => ?_)
      refine r_iinc X (j := 4) (v := (x4 + (-1))) (lv' := [(4, .int (x4 + (-1))), (0, .ref (α 1)), (1, .int x1), (2, .int x2), (3, .int x3)]) dX0_takeBlock_48 rfl rfl (by decide) rfl ?_
      refine r_goto X (tgt := 30) dX0_takeBlock_51 (by decide) ?_
      refine r_sub (lv' := [(0, .ref (α 1)), (1, .int x1), (2, .int x2), (3, .int x3), (4, .int (x4 + (-1)))]) [1, 2, 3, 4, 0] rfl ?_
      exact ih x1 x2 x3 (x4 + (-1)) σ_45
set_option maxRecDepth 100000 in
set_option maxHeartbeats 4000000 in
theorem cl_X0_takeBlock_2 (l : Launch) (D : va_G) (cI cZ : ClassId) (α : Nat → Nat) (A : Nat → Prop) (hJ : ∀ σ, va_D A ((kwX cI α) σ)) {p : Program} {e : Env} {s : State} {m : MethodId} {args : Array Value} {below : List Frame} {meth : Method} {c : Code} (X : CX p s m args meth c cX0_takeBlock 5 RX0 D (tyA cI cZ) (kwX cI α) A (some .int)) : ∀ (n : Nat) (x1 : Int32) (x2 : Int32) (σ : KS), Cr p l e (rmd 2) s m args below meth c 5 D (kwX cI α) A vI 2 [(0, .ref (α 1)), (1, .int x1), (2, .int x2)] [] σ (f_X0_takeBlock_2 n x1 x2 σ) := by
  intro n
  induction n with
  | zero => intros; exact r_none
  | succ n ih =>
    intro x1 x2 σ
    rw [f_X0_takeBlock_2]
    refine r_iload_n X (j := 2) dX0_takeBlock_2 rfl rfl ?_
    refine r_bipush X (v := 7) dX0_takeBlock_3 (by decide) ?_
    refine r_icmp_gt X (tgt := 62) dX0_takeBlock_5 (by decide) (fun _ => ?_) (fun _ => ?_)
    · refine r_iconst X (v := (-1)) dX0_takeBlock_62 (by decide) ?_
      exact r_ireturn X dX0_takeBlock_63
    · refine r_aload_n X (j := 0) dX0_takeBlock_8 rfl rfl ?_
      refine r_iload_n X (j := 2) dX0_takeBlock_9 rfl rfl ?_
      refine r_callVi X (q0 := 1) (ci := 0) (n := 1) (As := [.int x2]) (st := []) (c_X0_leastOf l D cI cZ α A hJ x2 σ) ml_X0_22 im_X0_leastOf se_X0_leastOf ii_X0 co_X0_leastOf (by decide +kernel) ⟨Nat.le_of_ble_eq_true rfl, Nat.le_of_ble_eq_true rfl⟩ rfl rfl rfl rfl (Nat.le_of_ble_eq_true rfl) dX0_takeBlock_10 (fun r_10 σ_10 hc_10 => ?_)
      refine r_istore_n X (lv' := [(3, .int r_10), (0, .ref (α 1)), (1, .int x1), (2, .int x2)]) dX0_takeBlock_13 rfl (by decide) rfl ?_
      refine r_iload_n X (j := 0) dX0_takeBlock_14 rfl rfl ?_
      refine r_iconst X (v := (-1)) dX0_takeBlock_15 (by decide) ?_
      refine r_icmp_eq X (tgt := 56) dX0_takeBlock_16 (by decide) (fun _ => ?_) (fun _ => ?_)
      · refine r_iinc X (j := 3) (v := (x2 + 1)) (lv' := [(2, .int (x2 + 1)), (3, .int r_10), (0, .ref (α 1)), (1, .int x1)]) dX0_takeBlock_56 rfl rfl (by decide) rfl ?_
        refine r_goto X (tgt := 2) dX0_takeBlock_59 (by decide) ?_
        refine r_sub (lv' := [(0, .ref (α 1)), (1, .int x1), (2, .int (x2 + 1))]) [2, 3, 0] rfl ?_
        exact ih x1 (x2 + 1) σ_10
      · refine r_aload_n X (j := 1) dX0_takeBlock_19 rfl rfl ?_
        refine r_iload_n X (j := 0) dX0_takeBlock_20 rfl rfl ?_
        refine r_iload_n X (j := 3) dX0_takeBlock_21 rfl rfl ?_
        refine r_callVv X (q0 := 1) (ci := 0) (n := 2) (As := [.int r_10, .int x2]) (st := []) (c_X0_leaveOut l D cI cZ α A hJ r_10 x2 σ_10) ml_X0_26 im_X0_leaveOut se_X0_leaveOut ii_X0 co_X0_leaveOut (by decide +kernel) ⟨Nat.le_of_ble_eq_true rfl, Nat.le_of_ble_eq_true rfl⟩ rfl rfl rfl rfl (Nat.le_of_ble_eq_true rfl) dX0_takeBlock_22 (fun r_22 σ_22 hc_22 => ?_)
        refine r_iload_n X (j := 3) dX0_takeBlock_25 rfl rfl ?_
        refine r_iconst X (v := 1) dX0_takeBlock_26 (by decide) ?_
        refine r_isub X dX0_takeBlock_27 ?_
        refine r_istore X (lv' := [(4, .int (x2 - 1)), (3, .int r_10), (0, .ref (α 1)), (1, .int x1), (2, .int x2)]) dX0_takeBlock_28 (by decide) rfl ?_
        refine r_sub (lv' := [(0, .ref (α 1)), (1, .int x1), (2, .int x2), (3, .int r_10), (4, .int (x2 - 1))]) [2, 3, 4, 1, 0] rfl ?_
        exact cl_X0_takeBlock_30 l D cI cZ α A hJ X FU x1 x2 r_10 (x2 - 1) σ_22
set_option maxRecDepth 100000 in
set_option maxHeartbeats 4000000 in
theorem c_X0_takeBlock (l : Launch) (D : va_G) (cI cZ : ClassId) (α : Nat → Nat) (A : Nat → Prop) (hJ : ∀ σ, va_D A ((kwX cI α) σ)) (x1 : Int32) (σ : KS) : Ct l D (tyA cI cZ) (kwX cI α) A yX0_takeBlock cX0_takeBlock 5 (some .int) 2 vI [.ref (α 1), .int x1] σ (m_X0_takeBlock x1 σ) := by
  refine Ct.of (own := RX0) hJ (by decide) rfl (Nat.le_of_ble_eq_true rfl) ?_
  intro p e s m args below meth c X
  refine r_sub (lv' := [(0, .ref (α 1)), (1, .int x1)]) [0, 1] rfl ?_
  unfold m_X0_takeBlock
  refine r_iload_n X (j := 1) dX0_takeBlock_0 rfl rfl ?_
  refine r_istore_n X (lv' := [(2, .int x1), (0, .ref (α 1)), (1, .int x1)]) dX0_takeBlock_1 rfl (by decide) rfl ?_
  refine r_sub (lv' := [(0, .ref (α 1)), (1, .int x1), (2, .int x1)]) [1, 2, 0] rfl ?_
  exact cl_X0_takeBlock_2 l D cI cZ α A hJ X FU x1 x1 σ
set_option maxRecDepth 100000 in
set_option maxHeartbeats 4000000 in
theorem c_X2_free (l : Launch) (D : va_G) (cI cZ : ClassId) (α : Nat → Nat) (A : Nat → Prop) (hJ : ∀ σ, va_D A ((kwX cI α) σ)) (x1 x2 : Int32) (σ : KS) : Ct l D (tyA cI cZ) (kwX cI α) A yX2_free cX2_free 3 (some .int) 2 vI [.ref (α 0), .int x1, .int x2] σ (m_X2_free x1 x2 σ) := by
  refine Ct.of (own := RX2) hJ (by decide) rfl (Nat.le_of_ble_eq_true rfl) ?_
  intro p e s m args below meth c X
  refine r_sub (lv' := [(0, .ref (α 0)), (1, .int x1), (2, .int x2)]) [0, 1, 2] rfl ?_
  unfold m_X2_free
  refine r_iload_n X (j := 1) dX2_free_0 rfl rfl ?_
  refine r_callSi X (n := 1) (As := [.int x1]) (st := []) (c_X2_isOrder l D cI cZ α A hJ x1 σ) ml_X2_118 sm_X2_isOrder ii_X2 co_X2_isOrder (by decide +kernel) ⟨Nat.le_of_ble_eq_true rfl, Nat.le_of_ble_eq_true rfl⟩ rfl rfl (Nat.le_of_ble_eq_true rfl) dX2_free_1 (fun r_1 σ_1 hc_1 => ?_)
  refine r_if_ne X (tgt := 10) dX2_free_4 (by decide) (fun _ => ?_) (fun _ => ?_)
  · refine r_bipush X (v := (-2)) dX2_free_7 (by decide) ?_
    exact r_ireturn X dX2_free_9
  · refine r_iload_n X (j := 2) dX2_free_10 rfl rfl ?_
    refine r_ite (fun hs0 => ?_) (fun hs0 => ?_)
    · refine r_look X (off := 25) (tgt := 36) dX2_free_11 (by decide) (by rw [hs0]; decide) (by decide) ?_
      refine r_aload_n X (j := 0) dX2_free_36 rfl rfl ?_
      refine r_get X (ci := 2) (q0 := 0) (v := .ref (α 1)) inX2 rfl rfl 0 (by decide) rfl fl_X2_10 dX2_free_37 ?_
      refine r_iload_n X (j := 1) dX2_free_40 rfl rfl ?_
      refine r_callVi X (q0 := 1) (ci := 0) (n := 1) (As := [.int x1]) (st := []) (c_X0_countOf l D cI cZ α A hJ x1 σ_1) ml_X2_130 im_X0_countOf se_X0_countOf ii_X0 co_X0_countOf (by decide +kernel) ⟨Nat.le_of_ble_eq_true rfl, Nat.le_of_ble_eq_true rfl⟩ rfl rfl rfl rfl (Nat.le_of_ble_eq_true rfl) dX2_free_41 (fun r_41 σ_41 hc_41 => ?_)
      exact r_ireturn X dX2_free_44
    · refine r_ite (fun hs1 => ?_) (fun hs1 => ?_)
      · refine r_look X (off := 34) (tgt := 45) dX2_free_11 (by decide) (by rw [hs1]; decide) (by decide) ?_
        refine r_aload_n X (j := 0) dX2_free_45 rfl rfl ?_
        refine r_get X (ci := 2) (q0 := 0) (v := .ref (α 1)) inX2 rfl rfl 0 (by decide) rfl fl_X2_10 dX2_free_46 ?_
        refine r_iload_n X (j := 1) dX2_free_49 rfl rfl ?_
        refine r_callVi X (q0 := 1) (ci := 0) (n := 1) (As := [.int x1]) (st := []) (c_X0_leastOf l D cI cZ α A hJ x1 σ_1) ml_X2_133 im_X0_leastOf se_X0_leastOf ii_X0 co_X0_leastOf (by decide +kernel) ⟨Nat.le_of_ble_eq_true rfl, Nat.le_of_ble_eq_true rfl⟩ rfl rfl rfl rfl (Nat.le_of_ble_eq_true rfl) dX2_free_50 (fun r_50 σ_50 hc_50 => ?_)
        exact r_ireturn X dX2_free_53
      · refine r_look X (off := 43) (tgt := 54) dX2_free_11 (by decide) (by show Op.lookupswitch.offset [(0, 25), (1, 34)] _ _ = _; rw [lv_osw hs0 (by decide), lv_osw hs1 (by decide)]; rfl) (by decide) ?_
        refine r_bipush X (v := (-2)) dX2_free_54 (by decide) ?_
        exact r_ireturn X dX2_free_56
set_option maxRecDepth 100000 in
set_option maxHeartbeats 4000000 in
theorem cl_X2_freeFrames_4 (l : Launch) (D : va_G) (cI cZ : ClassId) (α : Nat → Nat) (A : Nat → Prop) (hJ : ∀ σ, va_D A ((kwX cI α) σ)) {p : Program} {e : Env} {s : State} {m : MethodId} {args : Array Value} {below : List Frame} {meth : Method} {c : Code} (X : CX p s m args meth c cX2_freeFrames 3 RX2 D (tyA cI cZ) (kwX cI α) A (some .int)) : ∀ (n : Nat) (x1 : Int32) (x2 : Int32) (σ : KS), Cr p l e (rmd 2) s m args below meth c 3 D (kwX cI α) A vI 4 [(0, .ref (α 0)), (1, .int x1), (2, .int x2)] [] σ (f_X2_freeFrames_4 n x1 x2 σ) := by
  intro n
  induction n with
  | zero => intros; exact r_none
  | succ n ih =>
    intro x1 x2 σ
    rw [f_X2_freeFrames_4]
    refine r_iload_n X (j := 2) dX2_freeFrames_4 rfl rfl ?_
    refine r_bipush X (v := 7) dX2_freeFrames_5 (by decide) ?_
    refine r_icmp_gt X (tgt := 29) dX2_freeFrames_7 (by decide) (fun _ => ?_) (fun _ => ?_)
    · refine r_iload_n X (j := 1) dX2_freeFrames_29 rfl rfl ?_
      exact r_ireturn X dX2_freeFrames_30
    · refine r_iload_n X (j := 1) dX2_freeFrames_10 rfl rfl ?_
      refine r_aload_n X (j := 0) dX2_freeFrames_11 rfl rfl ?_
      refine r_get X (ci := 2) (q0 := 0) (v := .ref (α 1)) inX2 rfl rfl 0 (by decide) rfl fl_X2_10 dX2_freeFrames_12 ?_
      refine r_iload_n X (j := 2) dX2_freeFrames_15 rfl rfl ?_
      refine r_callVi X (q0 := 1) (ci := 0) (n := 1) (As := [.int x2]) (st := [.int x1]) (c_X0_countOf l D cI cZ α A hJ x2 σ) ml_X2_130 im_X0_countOf se_X0_countOf ii_X0 co_X0_countOf (by decide +kernel) ⟨Nat.le_of_ble_eq_true rfl, Nat.le_of_ble_eq_true rfl⟩ rfl rfl rfl rfl (Nat.le_of_ble_eq_true rfl) dX2_freeFrames_16 (fun r_16 σ_16 hc_16 => ?_)
      refine r_iload_n X (j := 2) dX2_freeFrames_19 rfl rfl ?_
      refine r_ishl X dX2_freeFrames_20 ?_
      refine r_iadd X dX2_freeFrames_21 ?_
      refine r_istore_n X (lv' := [(1, .int (x1 + (r_16 <<< (x2 &&& 31)))), (0, .ref (α 0)), (2, .int x2)]) dX2_freeFrames_22 rfl (by decide) rfl ?_
      refine r_iinc X (j := 2) (v := (x2 + 1)) (lv' := [(2, .int (x2 + 1)), (1, .int (x1 + (r_16 <<< (x2 &&& 31)))), (0, .ref (α 0))]) dX2_freeFrames_23 rfl rfl (by decide) rfl ?_
      refine r_goto X (tgt := 4) dX2_freeFrames_26 (by decide) ?_
      refine r_sub (lv' := [(0, .ref (α 0)), (1, .int (x1 + (r_16 <<< (x2 &&& 31)))), (2, .int (x2 + 1))]) [2, 1, 0] rfl ?_
      exact ih (x1 + (r_16 <<< (x2 &&& 31))) (x2 + 1) σ_16
set_option maxRecDepth 100000 in
set_option maxHeartbeats 4000000 in
theorem c_X2_freeFrames (l : Launch) (D : va_G) (cI cZ : ClassId) (α : Nat → Nat) (A : Nat → Prop) (hJ : ∀ σ, va_D A ((kwX cI α) σ)) (σ : KS) : Ct l D (tyA cI cZ) (kwX cI α) A yX2_freeFrames cX2_freeFrames 3 (some .int) 2 vI [.ref (α 0)] σ (m_X2_freeFrames σ) := by
  refine Ct.of (own := RX2) hJ (by decide) rfl (Nat.le_of_ble_eq_true rfl) ?_
  intro p e s m args below meth c X
  refine r_sub (lv' := [(0, .ref (α 0))]) [0] rfl ?_
  unfold m_X2_freeFrames
  refine r_iconst X (v := 0) dX2_freeFrames_0 (by decide) ?_
  refine r_istore_n X (lv' := [(1, .int 0), (0, .ref (α 0))]) dX2_freeFrames_1 rfl (by decide) rfl ?_
  refine r_iconst X (v := 0) dX2_freeFrames_2 (by decide) ?_
  refine r_istore_n X (lv' := [(2, .int 0), (1, .int 0), (0, .ref (α 0))]) dX2_freeFrames_3 rfl (by decide) rfl ?_
  refine r_sub (lv' := [(0, .ref (α 0)), (1, .int 0), (2, .int 0)]) [2, 1, 0] rfl ?_
  exact cl_X2_freeFrames_4 l D cI cZ α A hJ X FU 0 0 σ
set_option maxRecDepth 100000 in
set_option maxHeartbeats 4000000 in
theorem c_X2_hasPage (l : Launch) (D : va_G) (cI cZ : ClassId) (α : Nat → Nat) (A : Nat → Prop) (hJ : ∀ σ, va_D A ((kwX cI α) σ)) (x1 x2 : Int32) (σ : KS) : Ct l D (tyA cI cZ) (kwX cI α) A yX2_hasPage cX2_hasPage 3 (some .boolean) 2 vI [.ref (α 0), .int x1, .int x2] σ (m_X2_hasPage x1 x2 σ) := by
  refine Ct.of (own := RX2) hJ (by decide) rfl (Nat.le_of_ble_eq_true rfl) ?_
  intro p e s m args below meth c X
  refine r_sub (lv' := [(0, .ref (α 0)), (1, .int x1), (2, .int x2)]) [0, 1, 2] rfl ?_
  unfold m_X2_hasPage
  refine r_aload_n X (j := 0) dX2_hasPage_0 rfl rfl ?_
  refine r_iload_n X (j := 1) dX2_hasPage_1 rfl rfl ?_
  refine r_callVi X (q0 := 0) (ci := 2) (n := 1) (As := [.int x1]) (st := []) (c_X2_isLive l D cI cZ α A hJ x1 σ) ml_X2_60 im_X2_isLive se_X2_isLive ii_X2 co_X2_isLive (by decide +kernel) ⟨Nat.le_of_ble_eq_true rfl, Nat.le_of_ble_eq_true rfl⟩ rfl rfl rfl rfl (Nat.le_of_ble_eq_true rfl) dX2_hasPage_2 (fun r_2 σ_2 hc_2 => ?_)
  refine r_if_eq X (tgt := 26) dX2_hasPage_5 (by decide) (fun _ => ?_) (fun _ => ?_)
  · refine r_iconst X (v := 0) dX2_hasPage_26 (by decide) ?_
    exact r_zreturn X (by decide) dX2_hasPage_27
  · refine r_iload_n X (j := 2) dX2_hasPage_8 rfl rfl ?_
    refine r_if_lt X (tgt := 26) dX2_hasPage_9 (by decide) (fun _ => ?_) (fun _ => ?_)
    · refine r_iconst X (v := 0) dX2_hasPage_26 (by decide) ?_
      exact r_zreturn X (by decide) dX2_hasPage_27
    · refine r_iload_n X (j := 2) dX2_hasPage_12 rfl rfl ?_
      refine r_aload_n X (j := 0) dX2_hasPage_13 rfl rfl ?_
      refine r_get X (ci := 2) (q0 := 0) (v := .ref (α 14)) inX2 rfl rfl 9 (by decide) rfl fl_X2_47 dX2_hasPage_14 ?_
      refine r_iload_n X (j := 1) dX2_hasPage_17 rfl rfl ?_
      refine r_iald X (q0 := 14) (t0 := 0) (kk := 14) rfl rfl dX2_hasPage_18 ?_
      refine r_icmp_ge X (tgt := 26) dX2_hasPage_19 (by decide) (fun _ => ?_) (fun _ => ?_)
      · refine r_iconst X (v := 0) dX2_hasPage_26 (by decide) ?_
        exact r_zreturn X (by decide) dX2_hasPage_27
      · refine r_iconst X (v := 1) dX2_hasPage_22 (by decide) ?_
        refine r_goto X (tgt := 27) dX2_hasPage_23 (by decide) ?_
        exact r_zreturn X (by decide) dX2_hasPage_27
set_option maxRecDepth 100000 in
set_option maxHeartbeats 4000000 in
theorem c_X2_kindOf (l : Launch) (D : va_G) (cI cZ : ClassId) (α : Nat → Nat) (A : Nat → Prop) (hJ : ∀ σ, va_D A ((kwX cI α) σ)) (x1 : Int32) (σ : KS) : Ct l D (tyA cI cZ) (kwX cI α) A yX2_kindOf cX2_kindOf 2 (some .int) 2 vI [.ref (α 0), .int x1] σ (m_X2_kindOf x1 σ) := by
  refine Ct.of (own := RX2) hJ (by decide) rfl (Nat.le_of_ble_eq_true rfl) ?_
  intro p e s m args below meth c X
  refine r_sub (lv' := [(0, .ref (α 0)), (1, .int x1)]) [0, 1] rfl ?_
  unfold m_X2_kindOf
  refine r_aload_n X (j := 0) dX2_kindOf_0 rfl rfl ?_
  refine r_get X (ci := 2) (q0 := 0) (v := .ref (α 2)) inX2 rfl rfl 1 (by decide) rfl fl_X2_21 dX2_kindOf_1 ?_
  refine r_iload_n X (j := 1) dX2_kindOf_4 rfl rfl ?_
  refine r_callVi X (q0 := 2) (ci := 1) (n := 1) (As := [.int x1]) (st := []) (c_X1r_countIn l D cI cZ α A hJ x1 σ) ml_X2_142 im_X1_countIn se_X1_countIn ii_X1 co_X1_countIn (by decide +kernel) ⟨Nat.le_of_ble_eq_true rfl, Nat.le_of_ble_eq_true rfl⟩ rfl rfl rfl rfl (Nat.le_of_ble_eq_true rfl) dX2_kindOf_5 (fun r_5 σ_5 hc_5 => ?_)
  refine r_if_le X (tgt := 13) dX2_kindOf_8 (by decide) (fun _ => ?_) (fun _ => ?_)
  · refine r_aload_n X (j := 0) dX2_kindOf_13 rfl rfl ?_
    refine r_get X (ci := 2) (q0 := 0) (v := .ref (α 3)) inX2 rfl rfl 2 (by decide) rfl fl_X2_25 dX2_kindOf_14 ?_
    refine r_iload_n X (j := 1) dX2_kindOf_17 rfl rfl ?_
    refine r_callVi X (q0 := 3) (ci := 1) (n := 1) (As := [.int x1]) (st := []) (c_X1t_countIn l D cI cZ α A hJ x1 σ_5) ml_X2_142 im_X1_countIn se_X1_countIn ii_X1 co_X1_countIn (by decide +kernel) ⟨Nat.le_of_ble_eq_true rfl, Nat.le_of_ble_eq_true rfl⟩ rfl rfl rfl rfl (Nat.le_of_ble_eq_true rfl) dX2_kindOf_18 (fun r_18 σ_18 hc_18 => ?_)
    refine r_if_le X (tgt := 26) dX2_kindOf_21 (by decide) (fun _ => ?_) (fun _ => ?_)
    · refine r_iload_n X (j := 1) dX2_kindOf_26 rfl rfl ?_
      refine r_callSi X (n := 1) (As := [.int x1]) (st := []) (c_X2_isFrame l D cI cZ α A hJ x1 σ_18) ml_X2_124 sm_X2_isFrame ii_X2 co_X2_isFrame (by decide +kernel) ⟨Nat.le_of_ble_eq_true rfl, Nat.le_of_ble_eq_true rfl⟩ rfl rfl (Nat.le_of_ble_eq_true rfl) dX2_kindOf_27 (fun r_27 σ_27 hc_27 => ?_)
      refine r_if_eq X (tgt := 44) dX2_kindOf_30 (by decide) (fun _ => ?_) (fun _ => ?_)
      · refine r_aload_n X (j := 0) dX2_kindOf_44 rfl rfl ?_
        refine r_iload_n X (j := 1) dX2_kindOf_45 rfl rfl ?_
        refine r_callVi X (q0 := 0) (ci := 2) (n := 1) (As := [.int x1]) (st := []) (c_X2_isKernels l D cI cZ α A hJ x1 σ_27) ml_X2_193 im_X2_isKernels se_X2_isKernels ii_X2 co_X2_isKernels (by decide +kernel) ⟨Nat.le_of_ble_eq_true rfl, Nat.le_of_ble_eq_true rfl⟩ rfl rfl rfl rfl (Nat.le_of_ble_eq_true rfl) dX2_kindOf_46 (fun r_46 σ_46 hc_46 => ?_)
        refine r_if_eq X (tgt := 56) dX2_kindOf_49 (by decide) (fun _ => ?_) (fun _ => ?_)
        · refine r_iconst X (v := 0) dX2_kindOf_56 (by decide) ?_
          exact r_ireturn X dX2_kindOf_57
        · refine r_iconst X (v := 4) dX2_kindOf_52 (by decide) ?_
          refine r_goto X (tgt := 57) dX2_kindOf_53 (by decide) ?_
          exact r_ireturn X dX2_kindOf_57
      · refine r_aload_n X (j := 0) dX2_kindOf_33 rfl rfl ?_
        refine r_get X (ci := 2) (q0 := 0) (v := .ref (α 9)) inX2 rfl rfl 4 (by decide) rfl fl_X2_32 dX2_kindOf_34 ?_
        refine r_iload_n X (j := 1) dX2_kindOf_37 rfl rfl ?_
        refine r_iald X (q0 := 9) (t0 := 0) (kk := 9) rfl rfl dX2_kindOf_38 ?_
        refine r_if_le X (tgt := 44) dX2_kindOf_39 (by decide) (fun _ => ?_) (fun _ => ?_)
        · refine r_aload_n X (j := 0) dX2_kindOf_44 rfl rfl ?_
          refine r_iload_n X (j := 1) dX2_kindOf_45 rfl rfl ?_
          refine r_callVi X (q0 := 0) (ci := 2) (n := 1) (As := [.int x1]) (st := []) (c_X2_isKernels l D cI cZ α A hJ x1 σ_27) ml_X2_193 im_X2_isKernels se_X2_isKernels ii_X2 co_X2_isKernels (by decide +kernel) ⟨Nat.le_of_ble_eq_true rfl, Nat.le_of_ble_eq_true rfl⟩ rfl rfl rfl rfl (Nat.le_of_ble_eq_true rfl) dX2_kindOf_46 (fun r_46 σ_46 hc_46 => ?_)
          refine r_if_eq X (tgt := 56) dX2_kindOf_49 (by decide) (fun _ => ?_) (fun _ => ?_)
          · refine r_iconst X (v := 0) dX2_kindOf_56 (by decide) ?_
            exact r_ireturn X dX2_kindOf_57
          · refine r_iconst X (v := 4) dX2_kindOf_52 (by decide) ?_
            refine r_goto X (tgt := 57) dX2_kindOf_53 (by decide) ?_
            exact r_ireturn X dX2_kindOf_57
        · refine r_iconst X (v := 3) dX2_kindOf_42 (by decide) ?_
          exact r_ireturn X dX2_kindOf_43
    · refine r_iconst X (v := 2) dX2_kindOf_24 (by decide) ?_
      exact r_ireturn X dX2_kindOf_25
  · refine r_iconst X (v := 1) dX2_kindOf_11 (by decide) ?_
    exact r_ireturn X dX2_kindOf_12
set_option maxRecDepth 100000 in
set_option maxHeartbeats 4000000 in
theorem c_X1r_givePlace (l : Launch) (D : va_G) (cI cZ : ClassId) (α : Nat → Nat) (A : Nat → Prop) (hJ : ∀ σ, va_D A ((kwX cI α) σ)) (x1 : Int32) (σ : KS) : Ct l D (tyA cI cZ) (kwX cI α) A yX1_givePlace cX1_givePlace 3 none 3 vV [.ref (α 2), .int x1] σ (m_X1r_givePlace x1 σ) := by
  refine Ct.of (own := RX1) hJ (by decide) rfl (Nat.le_of_ble_eq_true rfl) ?_
  intro p e s m args below meth c X
  refine r_sub (lv' := [(0, .ref (α 2)), (1, .int x1)]) [0, 1] rfl ?_
  unfold m_X1r_givePlace
  refine r_iload_n X (j := 1) dX1_givePlace_0 rfl rfl ?_
  refine r_iconst X (v := 4) dX1_givePlace_1 (by decide) ?_
  refine r_idiv X dX1_givePlace_2 (by decide) ?_
  refine r_istore_n X (lv' := [(2, .int (x1 / 4)), (0, .ref (α 2)), (1, .int x1)]) dX1_givePlace_3 rfl (by decide) rfl ?_
  refine r_iload_n X (j := 2) dX1_givePlace_4 rfl rfl ?_
  refine r_if_lt X (tgt := 15) dX1_givePlace_5 (by decide) (fun _ => ?_) (fun _ => ?_)
  · exact r_return X dX1_givePlace_15
  · refine r_iload_n X (j := 0) dX1_givePlace_8 rfl rfl ?_
    refine r_callNi X (n := 1) (As := [.int (x1 / 4)]) (st := []) (c_X2_isFrame l D cI cZ α A hJ (x1 / 4) σ) X.2.2.1.2.2 sm_X2_isFrame ii_X2 co_X2_isFrame (by decide +kernel) ⟨Nat.le_of_ble_eq_true rfl, Nat.le_of_ble_eq_true rfl⟩ rfl rfl (Nat.le_of_ble_eq_true rfl) dX1_givePlace_9 (fun r_9 σ_9 hc_9 => ?_)
    refine r_if_ne X (tgt := 16) dX1_givePlace_12 (by decide) (fun _ => ?_) (fun _ => ?_)
    · exact r_return X dX1_givePlace_15
    · refine r_aload_n X (j := 1) dX1_givePlace_16 rfl rfl ?_
      refine r_get X (ci := 1) (q0 := 2) (v := .ref (α 6)) inX1 rfl rfl 1 (by decide) rfl fl_X1_15 dX1_givePlace_17 ?_
      refine r_iload_n X (j := 0) dX1_givePlace_20 rfl rfl ?_
      refine r_dup2 X dX1_givePlace_21 rfl rfl ?_
      refine r_iald X (q0 := 6) (t0 := 0) (kk := 6) rfl rfl dX1_givePlace_22 ?_
      refine r_iconst X (v := 1) dX1_givePlace_23 (by decide) ?_
      refine r_iload_n X (j := 2) dX1_givePlace_24 rfl rfl ?_
      refine r_iconst X (v := 4) dX1_givePlace_25 (by decide) ?_
      refine r_irem X dX1_givePlace_26 (by decide) ?_
      refine r_ishl X dX1_givePlace_27 ?_
      refine r_iconst X (v := (-1)) dX1_givePlace_28 (by decide) ?_
      refine r_ixor X dX1_givePlace_29 ?_
      refine r_iand X dX1_givePlace_30 ?_
      refine r_iast X (q0 := 6) (t0 := 0) (kk := 6) rfl (fun _ => rfl) rfl dX1_givePlace_31 ?_
      refine r_aload_n X (j := 1) dX1_givePlace_32 rfl rfl ?_
      refine r_get X (ci := 1) (q0 := 2) (v := .ref (α 6)) inX1 rfl rfl 1 (by decide) rfl fl_X1_15 dX1_givePlace_33 ?_
      refine r_iload_n X (j := 0) dX1_givePlace_36 rfl rfl ?_
      refine r_iald X (q0 := 6) (t0 := 0) (kk := 6) rfl rfl dX1_givePlace_37 ?_
      refine r_if_ne X (tgt := 50) dX1_givePlace_38 (by decide) (fun _ => ?_) (fun _ => ?_)
      · refine r_aload_n X (j := 1) dX1_givePlace_41 rfl rfl ?_
        refine r_get X (ci := 1) (q0 := 2) (v := .ref (α 1)) inX1 rfl rfl 0 (by decide) rfl fl_X1_9 dX1_givePlace_42 ?_
        refine r_iload_n X (j := 0) dX1_givePlace_45 rfl rfl ?_
        refine r_iconst X (v := 0) dX1_givePlace_46 (by decide) ?_
        refine r_callVv X (q0 := 1) (ci := 0) (n := 2) (As := [.int (x1 / 4), .int 0]) (st := []) (c_X0_giveBlock l D cI cZ α A hJ (x1 / 4) 0 (wr σ_9 6 (x1 / 4) ((rd σ_9 6 (x1 / 4)) &&& (((1 : Int32) <<< ((x1 - x1 / 4 * 4) &&& 31)) ^^^ (-1))))) ml_X1_38 im_X0_giveBlock se_X0_giveBlock ii_X0 co_X0_giveBlock (by decide +kernel) ⟨Nat.le_of_ble_eq_true rfl, Nat.le_of_ble_eq_true rfl⟩ rfl rfl rfl rfl (Nat.le_of_ble_eq_true rfl) dX1_givePlace_47 (fun r_47 σ_47 hc_47 => ?_)
        exact r_return X dX1_givePlace_50
      · exact r_return X dX1_givePlace_50
set_option maxRecDepth 100000 in
set_option maxHeartbeats 4000000 in
theorem cl_X1r_takePlace_30 (l : Launch) (D : va_G) (cI cZ : ClassId) (α : Nat → Nat) (A : Nat → Prop) (hJ : ∀ σ, va_D A ((kwX cI α) σ)) {p : Program} {e : Env} {s : State} {m : MethodId} {args : Array Value} {below : List Frame} {meth : Method} {c : Code} (X : CX p s m args meth c cX1_takePlace 3 RX1 D (tyA cI cZ) (kwX cI α) A (some .int)) : ∀ (n : Nat) (x1 : Int32) (x2 : Int32) (σ : KS), Cr p l e (rmd 3) s m args below meth c 3 D (kwX cI α) A vI 30 [(0, .ref (α 2)), (1, .int x1), (2, .int x2)] [] σ (f_X1r_takePlace_30 n x1 x2 σ) := by
  intro n
  induction n with
  | zero => intros; exact r_none
  | succ n ih =>
    intro x1 x2 σ
    rw [f_X1r_takePlace_30]
    refine r_iload_n X (j := 2) dX1_takePlace_30 rfl rfl ?_
    refine r_iconst X (v := 4) dX1_takePlace_31 (by decide) ?_
    refine r_icmp_ge X (tgt := 72) dX1_takePlace_32 (by decide) (fun _ => ?_) (fun _ => ?_)
    · refine r_iconst X (v := (-1)) dX1_takePlace_72 (by decide) ?_
      exact r_ireturn X dX1_takePlace_73
    · refine r_aload_n X (j := 0) dX1_takePlace_35 rfl rfl ?_
      refine r_get X (ci := 1) (q0 := 2) (v := .ref (α 6)) inX1 rfl rfl 1 (by decide) rfl fl_X1_15 dX1_takePlace_36 ?_
      refine r_iload_n X (j := 1) dX1_takePlace_39 rfl rfl ?_
      refine r_iald X (q0 := 6) (t0 := 0) (kk := 6) rfl rfl dX1_takePlace_40 ?_
      refine r_iconst X (v := 1) dX1_takePlace_41 (by decide) ?_
      refine r_iload_n X (j := 2) dX1_takePlace_42 rfl rfl ?_
      refine r_ishl X dX1_takePlace_43 ?_
      refine r_iand X dX1_takePlace_44 ?_
      refine r_if_ne X (tgt := 66) dX1_takePlace_45 (by decide) (fun _ => ?_) (fun _ => ?_)
      · refine r_aload_n X (j := 0) dX1_takePlace_48 rfl rfl ?_
        refine r_get X (ci := 1) (q0 := 2) (v := .ref (α 6)) inX1 rfl rfl 1 (by decide) rfl fl_X1_15 dX1_takePlace_49 ?_
        refine r_iload_n X (j := 1) dX1_takePlace_52 rfl rfl ?_
        refine r_dup2 X dX1_takePlace_53 rfl rfl ?_
        refine r_iald X (q0 := 6) (t0 := 0) (kk := 6) rfl rfl dX1_takePlace_54 ?_
        refine r_iconst X (v := 1) dX1_takePlace_55 (by decide) ?_
        refine r_iload_n X (j := 2) dX1_takePlace_56 rfl rfl ?_
        refine r_ishl X dX1_takePlace_57 ?_
        refine r_ior X dX1_takePlace_58 ?_
        refine r_iast X (q0 := 6) (t0 := 0) (kk := 6) rfl (fun _ => rfl) rfl dX1_takePlace_59 ?_
        refine r_iload_n X (j := 1) dX1_takePlace_60 rfl rfl ?_
        refine r_iconst X (v := 4) dX1_takePlace_61 (by decide) ?_
        refine r_imul X dX1_takePlace_62 ?_
        refine r_iload_n X (j := 2) dX1_takePlace_63 rfl rfl ?_
        refine r_iadd X dX1_takePlace_64 ?_
        exact r_ireturn X dX1_takePlace_65
      · refine r_iinc X (j := 2) (v := (x2 + 1)) (lv' := [(2, .int (x2 + 1)), (0, .ref (α 2)), (1, .int x1)]) dX1_takePlace_66 rfl rfl (by decide) rfl ?_
        refine r_goto X (tgt := 30) dX1_takePlace_69 (by decide) ?_
        refine r_sub (lv' := [(0, .ref (α 2)), (1, .int x1), (2, .int (x2 + 1))]) [1, 2, 0] rfl ?_
        exact ih x1 (x2 + 1) σ
set_option maxRecDepth 100000 in
set_option maxHeartbeats 4000000 in
theorem c_X1r_takePlace (l : Launch) (D : va_G) (cI cZ : ClassId) (α : Nat → Nat) (A : Nat → Prop) (hJ : ∀ σ, va_D A ((kwX cI α) σ)) (σ : KS) : Ct l D (tyA cI cZ) (kwX cI α) A yX1_takePlace cX1_takePlace 3 (some .int) 3 vI [.ref (α 2)] σ (m_X1r_takePlace σ) := by
  refine Ct.of (own := RX1) hJ (by decide) rfl (Nat.le_of_ble_eq_true rfl) ?_
  intro p e s m args below meth c X
  refine r_sub (lv' := [(0, .ref (α 2))]) [0] rfl ?_
  unfold m_X1r_takePlace
  refine r_aload_n X (j := 0) dX1_takePlace_0 rfl rfl ?_
  refine r_callVi X (q0 := 2) (ci := 1) (n := 0) (As := []) (st := []) (c_X1r_leastWithRoom l D cI cZ α A hJ σ) ml_X1_29 im_X1_leastWithRoom se_X1_leastWithRoom ii_X1 co_X1_leastWithRoom (by decide +kernel) ⟨Nat.le_of_ble_eq_true rfl, Nat.le_of_ble_eq_true rfl⟩ rfl rfl rfl rfl (Nat.le_of_ble_eq_true rfl) dX1_takePlace_1 (fun r_1 σ_1 hc_1 => ?_)
  refine r_istore_n X (lv' := [(1, .int r_1), (0, .ref (α 2))]) dX1_takePlace_4 rfl (by decide) rfl ?_
  refine r_iload_n X (j := 0) dX1_takePlace_5 rfl rfl ?_
  refine r_iconst X (v := (-1)) dX1_takePlace_6 (by decide) ?_
  refine r_icmp_ne X (tgt := 19) dX1_takePlace_7 (by decide) (fun _ => ?_) (fun _ => ?_)
  · refine r_aload_n X (j := 1) dX1_takePlace_10 rfl rfl ?_
    refine r_get X (ci := 1) (q0 := 2) (v := .ref (α 1)) inX1 rfl rfl 0 (by decide) rfl fl_X1_9 dX1_takePlace_11 ?_
    refine r_iconst X (v := 0) dX1_takePlace_14 (by decide) ?_
    refine r_callVi X (q0 := 1) (ci := 0) (n := 1) (As := [.int 0]) (st := []) (c_X0_takeBlock l D cI cZ α A hJ 0 σ_1) ml_X1_33 im_X0_takeBlock se_X0_takeBlock ii_X0 co_X0_takeBlock (by decide +kernel) ⟨Nat.le_of_ble_eq_true rfl, Nat.le_of_ble_eq_true rfl⟩ rfl rfl rfl rfl (Nat.le_of_ble_eq_true rfl) dX1_takePlace_15 (fun r_15 σ_15 hc_15 => ?_)
    refine r_istore_n X (lv' := [(1, .int r_15), (0, .ref (α 2))]) dX1_takePlace_18 rfl (by decide) rfl ?_
    refine r_iload_n X (j := 0) dX1_takePlace_19 rfl rfl ?_
    refine r_callNi X (n := 1) (As := [.int r_15]) (st := []) (c_X2_isFrame l D cI cZ α A hJ r_15 σ_15) X.2.2.1.2.2 sm_X2_isFrame ii_X2 co_X2_isFrame (by decide +kernel) ⟨Nat.le_of_ble_eq_true rfl, Nat.le_of_ble_eq_true rfl⟩ rfl rfl (Nat.le_of_ble_eq_true rfl) dX1_takePlace_20 (fun r_20 σ_20 hc_20 => ?_)
    refine r_if_ne X (tgt := 28) dX1_takePlace_23 (by decide) (fun _ => ?_) (fun _ => ?_)
    · refine r_iconst X (v := (-1)) dX1_takePlace_26 (by decide) ?_
      exact r_ireturn X dX1_takePlace_27
    · refine r_iconst X (v := 0) dX1_takePlace_28 (by decide) ?_
      refine r_istore_n X (lv' := [(2, .int 0), (1, .int r_15), (0, .ref (α 2))]) dX1_takePlace_29 rfl (by decide) rfl ?_
      refine r_sub (lv' := [(0, .ref (α 2)), (1, .int r_15), (2, .int 0)]) [2, 1, 0] rfl ?_
      exact cl_X1r_takePlace_30 l D cI cZ α A hJ X FU r_15 0 σ_20
  · refine r_iload_n X (j := 0) dX1_takePlace_19 rfl rfl ?_
    refine r_callNi X (n := 1) (As := [.int r_1]) (st := []) (c_X2_isFrame l D cI cZ α A hJ r_1 σ_1) X.2.2.1.2.2 sm_X2_isFrame ii_X2 co_X2_isFrame (by decide +kernel) ⟨Nat.le_of_ble_eq_true rfl, Nat.le_of_ble_eq_true rfl⟩ rfl rfl (Nat.le_of_ble_eq_true rfl) dX1_takePlace_20 (fun r_20 σ_20 hc_20 => ?_)
    refine r_if_ne X (tgt := 28) dX1_takePlace_23 (by decide) (fun _ => ?_) (fun _ => ?_)
    · refine r_iconst X (v := (-1)) dX1_takePlace_26 (by decide) ?_
      exact r_ireturn X dX1_takePlace_27
    · refine r_iconst X (v := 0) dX1_takePlace_28 (by decide) ?_
      refine r_istore_n X (lv' := [(2, .int 0), (1, .int r_1), (0, .ref (α 2))]) dX1_takePlace_29 rfl (by decide) rfl ?_
      refine r_sub (lv' := [(0, .ref (α 2)), (1, .int r_1), (2, .int 0)]) [2, 1, 0] rfl ?_
      exact cl_X1r_takePlace_30 l D cI cZ α A hJ X FU r_1 0 σ_20
set_option maxRecDepth 100000 in
set_option maxHeartbeats 4000000 in
theorem c_X1t_givePlace (l : Launch) (D : va_G) (cI cZ : ClassId) (α : Nat → Nat) (A : Nat → Prop) (hJ : ∀ σ, va_D A ((kwX cI α) σ)) (x1 : Int32) (σ : KS) : Ct l D (tyA cI cZ) (kwX cI α) A yX1_givePlace cX1_givePlace 3 none 3 vV [.ref (α 3), .int x1] σ (m_X1t_givePlace x1 σ) := by
  refine Ct.of (own := RX1) hJ (by decide) rfl (Nat.le_of_ble_eq_true rfl) ?_
  intro p e s m args below meth c X
  refine r_sub (lv' := [(0, .ref (α 3)), (1, .int x1)]) [0, 1] rfl ?_
  unfold m_X1t_givePlace
  refine r_iload_n X (j := 1) dX1_givePlace_0 rfl rfl ?_
  refine r_iconst X (v := 4) dX1_givePlace_1 (by decide) ?_
  refine r_idiv X dX1_givePlace_2 (by decide) ?_
  refine r_istore_n X (lv' := [(2, .int (x1 / 4)), (0, .ref (α 3)), (1, .int x1)]) dX1_givePlace_3 rfl (by decide) rfl ?_
  refine r_iload_n X (j := 2) dX1_givePlace_4 rfl rfl ?_
  refine r_if_lt X (tgt := 15) dX1_givePlace_5 (by decide) (fun _ => ?_) (fun _ => ?_)
  · exact r_return X dX1_givePlace_15
  · refine r_iload_n X (j := 0) dX1_givePlace_8 rfl rfl ?_
    refine r_callNi X (n := 1) (As := [.int (x1 / 4)]) (st := []) (c_X2_isFrame l D cI cZ α A hJ (x1 / 4) σ) X.2.2.1.2.2 sm_X2_isFrame ii_X2 co_X2_isFrame (by decide +kernel) ⟨Nat.le_of_ble_eq_true rfl, Nat.le_of_ble_eq_true rfl⟩ rfl rfl (Nat.le_of_ble_eq_true rfl) dX1_givePlace_9 (fun r_9 σ_9 hc_9 => ?_)
    refine r_if_ne X (tgt := 16) dX1_givePlace_12 (by decide) (fun _ => ?_) (fun _ => ?_)
    · exact r_return X dX1_givePlace_15
    · refine r_aload_n X (j := 1) dX1_givePlace_16 rfl rfl ?_
      refine r_get X (ci := 1) (q0 := 3) (v := .ref (α 7)) inX1 rfl rfl 1 (by decide) rfl fl_X1_15 dX1_givePlace_17 ?_
      refine r_iload_n X (j := 0) dX1_givePlace_20 rfl rfl ?_
      refine r_dup2 X dX1_givePlace_21 rfl rfl ?_
      refine r_iald X (q0 := 7) (t0 := 0) (kk := 7) rfl rfl dX1_givePlace_22 ?_
      refine r_iconst X (v := 1) dX1_givePlace_23 (by decide) ?_
      refine r_iload_n X (j := 2) dX1_givePlace_24 rfl rfl ?_
      refine r_iconst X (v := 4) dX1_givePlace_25 (by decide) ?_
      refine r_irem X dX1_givePlace_26 (by decide) ?_
      refine r_ishl X dX1_givePlace_27 ?_
      refine r_iconst X (v := (-1)) dX1_givePlace_28 (by decide) ?_
      refine r_ixor X dX1_givePlace_29 ?_
      refine r_iand X dX1_givePlace_30 ?_
      refine r_iast X (q0 := 7) (t0 := 0) (kk := 7) rfl (fun _ => rfl) rfl dX1_givePlace_31 ?_
      refine r_aload_n X (j := 1) dX1_givePlace_32 rfl rfl ?_
      refine r_get X (ci := 1) (q0 := 3) (v := .ref (α 7)) inX1 rfl rfl 1 (by decide) rfl fl_X1_15 dX1_givePlace_33 ?_
      refine r_iload_n X (j := 0) dX1_givePlace_36 rfl rfl ?_
      refine r_iald X (q0 := 7) (t0 := 0) (kk := 7) rfl rfl dX1_givePlace_37 ?_
      refine r_if_ne X (tgt := 50) dX1_givePlace_38 (by decide) (fun _ => ?_) (fun _ => ?_)
      · refine r_aload_n X (j := 1) dX1_givePlace_41 rfl rfl ?_
        refine r_get X (ci := 1) (q0 := 3) (v := .ref (α 1)) inX1 rfl rfl 0 (by decide) rfl fl_X1_9 dX1_givePlace_42 ?_
        refine r_iload_n X (j := 0) dX1_givePlace_45 rfl rfl ?_
        refine r_iconst X (v := 0) dX1_givePlace_46 (by decide) ?_
        refine r_callVv X (q0 := 1) (ci := 0) (n := 2) (As := [.int (x1 / 4), .int 0]) (st := []) (c_X0_giveBlock l D cI cZ α A hJ (x1 / 4) 0 (wr σ_9 7 (x1 / 4) ((rd σ_9 7 (x1 / 4)) &&& (((1 : Int32) <<< ((x1 - x1 / 4 * 4) &&& 31)) ^^^ (-1))))) ml_X1_38 im_X0_giveBlock se_X0_giveBlock ii_X0 co_X0_giveBlock (by decide +kernel) ⟨Nat.le_of_ble_eq_true rfl, Nat.le_of_ble_eq_true rfl⟩ rfl rfl rfl rfl (Nat.le_of_ble_eq_true rfl) dX1_givePlace_47 (fun r_47 σ_47 hc_47 => ?_)
        exact r_return X dX1_givePlace_50
      · exact r_return X dX1_givePlace_50
