set_option maxRecDepth 100000 in
set_option maxHeartbeats 4000000 in
theorem cl_X2_reap_24 (l : Launch) (D : va_G) (cI cZ : ClassId) (α : Nat → Nat) (A : Nat → Prop) (hJ : ∀ σ, va_D A ((kwX cI α) σ)) {p : Program} {e : Env} {s : State} {m : MethodId} {args : Array Value} {below : List Frame} {meth : Method} {c : Code} (X : CX p s m args meth c cX2_reap 3 RX2 D (tyA cI cZ) (kwX cI α) A (some .int)) : ∀ (n : Nat) (x1 : Int32) (x2 : Int32) (σ : KS), Cr p l e (rmd 5) s m args below meth c 3 D (kwX cI α) A vI 24 [(0, .ref (α 0)), (1, .int x1), (2, .int x2)] [] σ (f_X2_reap_24 n x1 x2 σ) := by
  intro n
  induction n with
  | zero => intros; exact r_none
  | succ n ih =>
    intro x1 x2 σ
    rw [f_X2_reap_24]
    refine r_iload_n X (j := 2) dX2_reap_24 rfl rfl ?_
    refine r_bipush X (v := 16) dX2_reap_25 (by decide) ?_
    refine r_icmp_ge X (tgt := 78) dX2_reap_27 (by decide) (fun _ => ?_) (fun _ => ?_)
    · refine r_bipush X (v := (-7)) dX2_reap_78 (by decide) ?_
      exact r_ireturn X dX2_reap_80
    · refine r_aload_n X (j := 0) dX2_reap_30 rfl rfl ?_
      refine r_get X (ci := 2) (q0 := 0) (v := .ref (α 12)) inX2 rfl rfl 7 (by decide) rfl fl_X2_41 dX2_reap_31 ?_
      refine r_iload_n X (j := 2) dX2_reap_34 rfl rfl ?_
      refine r_iald X (q0 := 12) (t0 := 0) (kk := 12) rfl rfl dX2_reap_35 ?_
      refine r_iload_n X (j := 1) dX2_reap_36 rfl rfl ?_
      refine r_icmp_ne X (tgt := 72) dX2_reap_37 (by decide) (fun _ => ?_) (fun _ => ?_)
      · refine r_aload_n X (j := 0) dX2_reap_40 rfl rfl ?_
        refine r_get X (ci := 2) (q0 := 0) (v := .ref (α 11)) inX2 rfl rfl 6 (by decide) rfl fl_X2_38 dX2_reap_41 ?_
        refine r_iload_n X (j := 2) dX2_reap_44 rfl rfl ?_
        refine r_iald X (q0 := 11) (t0 := 0) (kk := 11) rfl rfl dX2_reap_45 ?_
        refine r_iconst X (v := 2) dX2_reap_46 (by decide) ?_
        refine r_icmp_ne X (tgt := 72) dX2_reap_47 (by decide) (fun _ => ?_) (fun _ => ?_)
        · refine r_aload_n X (j := 0) dX2_reap_50 rfl rfl ?_
          refine r_iload_n X (j := 2) dX2_reap_51 rfl rfl ?_
          refine r_callVv X (q0 := 0) (ci := 2) (n := 1) (As := [.int x2]) (st := []) (c_X2_removeProcess l D cI cZ α A hJ x2 σ) ml_X2_102 im_X2_removeProcess se_X2_removeProcess ii_X2 co_X2_removeProcess (by decide +kernel) ⟨Nat.le_of_ble_eq_true rfl, Nat.le_of_ble_eq_true rfl⟩ rfl rfl rfl rfl (Nat.le_of_ble_eq_true rfl) dX2_reap_52 (fun r_52 σ_52 hc_52 => ?_)
          refine r_sipush X (v := 256) dX2_reap_55 (by decide) ?_
          refine r_iload_n X (j := 2) dX2_reap_58 rfl rfl ?_
          refine r_imul X dX2_reap_59 ?_
          refine r_aload_n X (j := 0) dX2_reap_60 rfl rfl ?_
          refine r_get X (ci := 2) (q0 := 0) (v := .ref (α 13)) inX2 rfl rfl 8 (by decide) rfl fl_X2_44 dX2_reap_61 ?_
          refine r_iload_n X (j := 2) dX2_reap_64 rfl rfl ?_
          refine r_iald X (q0 := 13) (t0 := 0) (kk := 13) rfl rfl dX2_reap_65 ?_
          refine r_sipush X (v := 255) dX2_reap_66 (by decide) ?_
          refine r_iand X dX2_reap_69 ?_
          refine r_iadd X dX2_reap_70 ?_
          exact r_ireturn X dX2_reap_71
        · refine r_iinc X (j := 2) (v := (x2 + 1)) (lv' := [(2, .int (x2 + 1)), (0, .ref (α 0)), (1, .int x1)]) dX2_reap_72 rfl rfl (by decide) rfl ?_
          refine r_goto X (tgt := 24) dX2_reap_75 (by decide) ?_
          refine r_sub (lv' := [(0, .ref (α 0)), (1, .int x1), (2, .int (x2 + 1))]) [1, 2, 0] rfl ?_
          exact ih x1 (x2 + 1) σ
      · refine r_iinc X (j := 2) (v := (x2 + 1)) (lv' := [(2, .int (x2 + 1)), (0, .ref (α 0)), (1, .int x1)]) dX2_reap_72 rfl rfl (by decide) rfl ?_
        refine r_goto X (tgt := 24) dX2_reap_75 (by decide) ?_
        refine r_sub (lv' := [(0, .ref (α 0)), (1, .int x1), (2, .int (x2 + 1))]) [1, 2, 0] rfl ?_
        exact ih x1 (x2 + 1) σ
set_option maxRecDepth 100000 in
set_option maxHeartbeats 4000000 in
theorem c_X2_reap (l : Launch) (D : va_G) (cI cZ : ClassId) (α : Nat → Nat) (A : Nat → Prop) (hJ : ∀ σ, va_D A ((kwX cI α) σ)) (x1 : Int32) (σ : KS) : Ct l D (tyA cI cZ) (kwX cI α) A yX2_reap cX2_reap 3 (some .int) 5 vI [.ref (α 0), .int x1] σ (m_X2_reap x1 σ) := by
  refine Ct.of (own := RX2) hJ (by decide) rfl (Nat.le_of_ble_eq_true rfl) ?_
  intro p e s m args below meth c X
  refine r_sub (lv' := [(0, .ref (α 0)), (1, .int x1)]) [0, 1] rfl ?_
  unfold m_X2_reap
  refine r_aload_n X (j := 0) dX2_reap_0 rfl rfl ?_
  refine r_iload_n X (j := 1) dX2_reap_1 rfl rfl ?_
  refine r_callVi X (q0 := 0) (ci := 2) (n := 1) (As := [.int x1]) (st := []) (c_X2_isLive l D cI cZ α A hJ x1 σ) ml_X2_60 im_X2_isLive se_X2_isLive ii_X2 co_X2_isLive (by decide +kernel) ⟨Nat.le_of_ble_eq_true rfl, Nat.le_of_ble_eq_true rfl⟩ rfl rfl rfl rfl (Nat.le_of_ble_eq_true rfl) dX2_reap_2 (fun r_2 σ_2 hc_2 => ?_)
  refine r_if_ne X (tgt := 11) dX2_reap_5 (by decide) (fun _ => ?_) (fun _ => ?_)
  · refine r_bipush X (v := (-2)) dX2_reap_8 (by decide) ?_
    exact r_ireturn X dX2_reap_10
  · refine r_aload_n X (j := 0) dX2_reap_11 rfl rfl ?_
    refine r_iload_n X (j := 1) dX2_reap_12 rfl rfl ?_
    refine r_callVi X (q0 := 0) (ci := 2) (n := 1) (As := [.int x1]) (st := []) (c_X2_childrenOf l D cI cZ α A hJ x1 σ_2) ml_X2_105 im_X2_childrenOf se_X2_childrenOf ii_X2 co_X2_childrenOf (by decide +kernel) ⟨Nat.le_of_ble_eq_true rfl, Nat.le_of_ble_eq_true rfl⟩ rfl rfl rfl rfl (Nat.le_of_ble_eq_true rfl) dX2_reap_13 (fun r_13 σ_13 hc_13 => ?_)
    refine r_if_ne X (tgt := 22) dX2_reap_16 (by decide) (fun _ => ?_) (fun _ => ?_)
    · refine r_bipush X (v := (-6)) dX2_reap_19 (by decide) ?_
      exact r_ireturn X dX2_reap_21
    · refine r_iconst X (v := 0) dX2_reap_22 (by decide) ?_
      refine r_istore_n X (lv' := [(2, .int 0), (0, .ref (α 0)), (1, .int x1)]) dX2_reap_23 rfl (by decide) rfl ?_
      refine r_sub (lv' := [(0, .ref (α 0)), (1, .int x1), (2, .int 0)]) [1, 2, 0] rfl ?_
      exact cl_X2_reap_24 l D cI cZ α A hJ X FU x1 0 σ_13
set_option maxRecDepth 100000 in
set_option maxHeartbeats 4000000 in
theorem cl_X2_shrinkTo_9 (l : Launch) (D : va_G) (cI cZ : ClassId) (α : Nat → Nat) (A : Nat → Prop) (hJ : ∀ σ, va_D A ((kwX cI α) σ)) {p : Program} {e : Env} {s : State} {m : MethodId} {args : Array Value} {below : List Frame} {meth : Method} {c : Code} (X : CX p s m args meth c cX2_shrinkTo 4 RX2 D (tyA cI cZ) (kwX cI α) A none) : ∀ (n : Nat) (x1 : Int32) (x2 : Int32) (x3 : Int32) (σ : KS), Cr p l e (rmd 5) s m args below meth c 4 D (kwX cI α) A vV 9 [(0, .ref (α 0)), (1, .int x1), (2, .int x2), (3, .int x3)] [] σ (f_X2_shrinkTo_9 n x1 x2 x3 σ) := by
  intro n
  induction n with
  | zero => intros; exact r_none
  | succ n ih =>
    intro x1 x2 x3 σ
    rw [f_X2_shrinkTo_9]
    refine r_iload_n X (j := 3) dX2_shrinkTo_9 rfl rfl ?_
    refine r_iload_n X (j := 2) dX2_shrinkTo_10 rfl rfl ?_
    refine r_icmp_lt X (tgt := 50) dX2_shrinkTo_11 (by decide) (fun _ => ?_) (fun _ => ?_)
    · exact r_return X dX2_shrinkTo_50
    · refine r_aload_n X (j := 0) dX2_shrinkTo_14 rfl rfl ?_
      refine r_aload_n X (j := 0) dX2_shrinkTo_15 rfl rfl ?_
      refine r_iload_n X (j := 1) dX2_shrinkTo_16 rfl rfl ?_
      refine r_iload_n X (j := 3) dX2_shrinkTo_17 rfl rfl ?_
      refine r_callVi X (q0 := 0) (ci := 2) (n := 2) (As := [.int x1, .int x3]) (st := [.ref (α 0)]) (c_X2_frameOfPage l D cI cZ α A hJ x1 x3 σ) ml_X2_136 im_X2_frameOfPage se_X2_frameOfPage ii_X2 co_X2_frameOfPage (by decide +kernel) ⟨Nat.le_of_ble_eq_true rfl, Nat.le_of_ble_eq_true rfl⟩ rfl rfl rfl rfl (Nat.le_of_ble_eq_true rfl) dX2_shrinkTo_18 (fun r_18 σ_18 hc_18 => ?_)
      refine r_callVv X (q0 := 0) (ci := 2) (n := 1) (As := [.int r_18]) (st := []) (c_X2_dropPageFrame l D cI cZ α A hJ r_18 σ_18) ml_X2_187 im_X2_dropPageFrame se_X2_dropPageFrame ii_X2 co_X2_dropPageFrame (by decide +kernel) ⟨Nat.le_of_ble_eq_true rfl, Nat.le_of_ble_eq_true rfl⟩ rfl rfl rfl rfl (Nat.le_of_ble_eq_true rfl) dX2_shrinkTo_21 (fun r_21 σ_21 hc_21 => ?_)
      refine r_iload_n X (j := 3) dX2_shrinkTo_24 rfl rfl ?_
      refine r_bipush X (v := 16) dX2_shrinkTo_25 (by decide) ?_
      refine r_irem X dX2_shrinkTo_27 (by decide) ?_
      refine r_if_ne X (tgt := 37) dX2_shrinkTo_28 (by decide) (fun _ => ?_) (fun _ => ?_)
      · refine r_aload_n X (j := 0) dX2_shrinkTo_31 rfl rfl ?_
        refine r_iload_n X (j := 1) dX2_shrinkTo_32 rfl rfl ?_
        refine r_iload_n X (j := 3) dX2_shrinkTo_33 rfl rfl ?_
        refine r_callVv X (q0 := 0) (ci := 2) (n := 2) (As := [.int x1, .int x3]) (st := []) (c_X2_dropTable l D cI cZ α A hJ x1 x3 σ_21) ml_X2_178 im_X2_dropTable se_X2_dropTable ii_X2 co_X2_dropTable (by decide +kernel) ⟨Nat.le_of_ble_eq_true rfl, Nat.le_of_ble_eq_true rfl⟩ rfl rfl rfl rfl (Nat.le_of_ble_eq_true rfl) dX2_shrinkTo_34 (fun r_34 σ_34 hc_34 => ?_)
        refine r_aload_n X (j := 0) dX2_shrinkTo_37 rfl rfl ?_
        refine r_get X (ci := 2) (q0 := 0) (v := .ref (α 14)) inX2 rfl rfl 9 (by decide) rfl fl_X2_47 dX2_shrinkTo_38 ?_
        refine r_iload_n X (j := 1) dX2_shrinkTo_41 rfl rfl ?_
        refine r_iload_n X (j := 3) dX2_shrinkTo_42 rfl rfl ?_
        refine r_iast X (q0 := 14) (t0 := 0) (kk := 14) rfl (fun _ => rfl) rfl dX2_shrinkTo_43 ?_
        refine r_iinc X (j := 3) (v := (x3 + (-1))) (lv' := [(3, .int (x3 + (-1))), (0, .ref (α 0)), (1, .int x1), (2, .int x2)]) dX2_shrinkTo_44 rfl rfl (by decide) rfl ?_
        refine r_goto X (tgt := 9) dX2_shrinkTo_47 (by decide) ?_
        refine r_sub (lv' := [(0, .ref (α 0)), (1, .int x1), (2, .int x2), (3, .int (x3 + (-1)))]) [1, 2, 3, 0] rfl ?_
        exact ih x1 x2 (x3 + (-1)) (wr σ_34 14 x1 x3)
      · refine r_aload_n X (j := 0) dX2_shrinkTo_37 rfl rfl ?_
        refine r_get X (ci := 2) (q0 := 0) (v := .ref (α 14)) inX2 rfl rfl 9 (by decide) rfl fl_X2_47 dX2_shrinkTo_38 ?_
        refine r_iload_n X (j := 1) dX2_shrinkTo_41 rfl rfl ?_
        refine r_iload_n X (j := 3) dX2_shrinkTo_42 rfl rfl ?_
        refine r_iast X (q0 := 14) (t0 := 0) (kk := 14) rfl (fun _ => rfl) rfl dX2_shrinkTo_43 ?_
        refine r_iinc X (j := 3) (v := (x3 + (-1))) (lv' := [(3, .int (x3 + (-1))), (0, .ref (α 0)), (1, .int x1), (2, .int x2)]) dX2_shrinkTo_44 rfl rfl (by decide) rfl ?_
        refine r_goto X (tgt := 9) dX2_shrinkTo_47 (by decide) ?_
        refine r_sub (lv' := [(0, .ref (α 0)), (1, .int x1), (2, .int x2), (3, .int (x3 + (-1)))]) [1, 2, 3, 0] rfl ?_
        exact ih x1 x2 (x3 + (-1)) (wr σ_21 14 x1 x3)
set_option maxRecDepth 100000 in
set_option maxHeartbeats 4000000 in
theorem c_X2_shrinkTo (l : Launch) (D : va_G) (cI cZ : ClassId) (α : Nat → Nat) (A : Nat → Prop) (hJ : ∀ σ, va_D A ((kwX cI α) σ)) (x1 x2 : Int32) (σ : KS) : Ct l D (tyA cI cZ) (kwX cI α) A yX2_shrinkTo cX2_shrinkTo 4 none 5 vV [.ref (α 0), .int x1, .int x2] σ (m_X2_shrinkTo x1 x2 σ) := by
  refine Ct.of (own := RX2) hJ (by decide) rfl (Nat.le_of_ble_eq_true rfl) ?_
  intro p e s m args below meth c X
  refine r_sub (lv' := [(0, .ref (α 0)), (1, .int x1), (2, .int x2)]) [0, 1, 2] rfl ?_
  unfold m_X2_shrinkTo
  refine r_aload_n X (j := 0) dX2_shrinkTo_0 rfl rfl ?_
  refine r_get X (ci := 2) (q0 := 0) (v := .ref (α 14)) inX2 rfl rfl 9 (by decide) rfl fl_X2_47 dX2_shrinkTo_1 ?_
  refine r_iload_n X (j := 1) dX2_shrinkTo_4 rfl rfl ?_
  refine r_iald X (q0 := 14) (t0 := 0) (kk := 14) rfl rfl dX2_shrinkTo_5 ?_
  refine r_iconst X (v := 1) dX2_shrinkTo_6 (by decide) ?_
  refine r_isub X dX2_shrinkTo_7 ?_
  refine r_istore_n X (lv' := [(3, .int ((rd σ 14 x1) - 1)), (0, .ref (α 0)), (1, .int x1), (2, .int x2)]) dX2_shrinkTo_8 rfl (by decide) rfl ?_
  refine r_sub (lv' := [(0, .ref (α 0)), (1, .int x1), (2, .int x2), (3, .int ((rd σ 14 x1) - 1))]) [1, 2, 3, 0] rfl ?_
  exact cl_X2_shrinkTo_9 l D cI cZ α A hJ X FU x1 x2 ((rd σ 14 x1) - 1) σ
set_option maxRecDepth 100000 in
set_option maxHeartbeats 4000000 in
theorem c_X2_store (l : Launch) (D : va_G) (cI cZ : ClassId) (α : Nat → Nat) (A : Nat → Prop) (hJ : ∀ σ, va_D A ((kwX cI α) σ)) (x1 x2 x3 : Int32) (σ : KS) : Ct l D (tyA cI cZ) (kwX cI α) A yX2_store cX2_store 4 (some .int) 5 vI [.ref (α 0), .int x1, .int x2, .int x3] σ (m_X2_store x1 x2 x3 σ) := by
  refine Ct.of (own := RX2) hJ (by decide) rfl (Nat.le_of_ble_eq_true rfl) ?_
  intro p e s m args below meth c X
  refine r_sub (lv' := [(0, .ref (α 0)), (1, .int x1), (2, .int x2), (3, .int x3)]) [0, 1, 2, 3] rfl ?_
  unfold m_X2_store
  refine r_aload_n X (j := 0) dX2_store_0 rfl rfl ?_
  refine r_iload_n X (j := 1) dX2_store_1 rfl rfl ?_
  refine r_callVi X (q0 := 0) (ci := 2) (n := 1) (As := [.int x1]) (st := []) (c_X2_isLive l D cI cZ α A hJ x1 σ) ml_X2_60 im_X2_isLive se_X2_isLive ii_X2 co_X2_isLive (by decide +kernel) ⟨Nat.le_of_ble_eq_true rfl, Nat.le_of_ble_eq_true rfl⟩ rfl rfl rfl rfl (Nat.le_of_ble_eq_true rfl) dX2_store_2 (fun r_2 σ_2 hc_2 => ?_)
  refine r_if_ne X (tgt := 11) dX2_store_5 (by decide) (fun _ => ?_) (fun _ => ?_)
  · refine r_bipush X (v := (-2)) dX2_store_8 (by decide) ?_
    exact r_ireturn X dX2_store_10
  · refine r_aload_n X (j := 0) dX2_store_11 rfl rfl ?_
    refine r_iload_n X (j := 1) dX2_store_12 rfl rfl ?_
    refine r_iload_n X (j := 2) dX2_store_13 rfl rfl ?_
    refine r_callSi X (n := 1) (As := [.int x2]) (st := [.int x1, .ref (α 0)]) (c_X2_pageOf l D cI cZ α A hJ x2 σ_2) ml_X2_76 sm_X2_pageOf ii_X2 co_X2_pageOf (by decide +kernel) ⟨Nat.le_of_ble_eq_true rfl, Nat.le_of_ble_eq_true rfl⟩ rfl rfl (Nat.le_of_ble_eq_true rfl) dX2_store_14 (fun r_14 σ_14 hc_14 => ?_)
    refine r_callVi X (q0 := 0) (ci := 2) (n := 2) (As := [.int x1, .int r_14]) (st := []) (c_X2_hasPage l D cI cZ α A hJ x1 r_14 σ_14) ml_X2_79 im_X2_hasPage se_X2_hasPage ii_X2 co_X2_hasPage (by decide +kernel) ⟨Nat.le_of_ble_eq_true rfl, Nat.le_of_ble_eq_true rfl⟩ rfl rfl rfl rfl (Nat.le_of_ble_eq_true rfl) dX2_store_17 (fun r_17 σ_17 hc_17 => ?_)
    refine r_if_ne X (tgt := 26) dX2_store_20 (by decide) (fun _ => ?_) (fun _ => ?_)
    · refine r_bipush X (v := (-5)) dX2_store_23 (by decide) ?_
      exact r_ireturn X dX2_store_25
    · refine r_aload_n X (j := 0) dX2_store_26 rfl rfl ?_
      refine r_iload_n X (j := 1) dX2_store_27 rfl rfl ?_
      refine r_iload_n X (j := 2) dX2_store_28 rfl rfl ?_
      refine r_callSi X (n := 1) (As := [.int x2]) (st := [.int x1, .ref (α 0)]) (c_X2_pageOf l D cI cZ α A hJ x2 σ_17) ml_X2_76 sm_X2_pageOf ii_X2 co_X2_pageOf (by decide +kernel) ⟨Nat.le_of_ble_eq_true rfl, Nat.le_of_ble_eq_true rfl⟩ rfl rfl (Nat.le_of_ble_eq_true rfl) dX2_store_29 (fun r_29 σ_29 hc_29 => ?_)
      refine r_callVi X (q0 := 0) (ci := 2) (n := 2) (As := [.int x1, .int r_29]) (st := []) (c_X2_ownPage l D cI cZ α A hJ x1 r_29 σ_29) ml_X2_89 im_X2_ownPage se_X2_ownPage ii_X2 co_X2_ownPage (by decide +kernel) ⟨Nat.le_of_ble_eq_true rfl, Nat.le_of_ble_eq_true rfl⟩ rfl rfl rfl rfl (Nat.le_of_ble_eq_true rfl) dX2_store_32 (fun r_32 σ_32 hc_32 => ?_)
      refine r_if_ne X (tgt := 43) dX2_store_35 (by decide) (fun _ => ?_) (fun _ => ?_)
      · refine r_aload_n X (j := 0) dX2_store_38 rfl rfl ?_
        refine r_callVi X (q0 := 0) (ci := 2) (n := 0) (As := []) (st := []) (c_X2_refuse l D cI cZ α A hJ σ_32) ml_X2_72 im_X2_refuse se_X2_refuse ii_X2 co_X2_refuse (by decide +kernel) ⟨Nat.le_of_ble_eq_true rfl, Nat.le_of_ble_eq_true rfl⟩ rfl rfl rfl rfl (Nat.le_of_ble_eq_true rfl) dX2_store_39 (fun r_39 σ_39 hc_39 => ?_)
        exact r_ireturn X dX2_store_42
      · refine r_aload_n X (j := 0) dX2_store_43 rfl rfl ?_
        refine r_aload_n X (j := 0) dX2_store_44 rfl rfl ?_
        refine r_iload_n X (j := 1) dX2_store_45 rfl rfl ?_
        refine r_iload_n X (j := 2) dX2_store_46 rfl rfl ?_
        refine r_callVi X (q0 := 0) (ci := 2) (n := 2) (As := [.int x1, .int x2]) (st := [.ref (α 0)]) (c_X2_wordIndex l D cI cZ α A hJ x1 x2 σ_32) ml_X2_82 im_X2_wordIndex se_X2_wordIndex ii_X2 co_X2_wordIndex (by decide +kernel) ⟨Nat.le_of_ble_eq_true rfl, Nat.le_of_ble_eq_true rfl⟩ rfl rfl rfl rfl (Nat.le_of_ble_eq_true rfl) dX2_store_47 (fun r_47 σ_47 hc_47 => ?_)
        refine r_iload_n X (j := 3) dX2_store_50 rfl rfl ?_
        refine r_callVv X (q0 := 0) (ci := 2) (n := 2) (As := [.int r_47, .int x3]) (st := []) (c_X2_setWord l D cI cZ α A hJ r_47 x3 σ_47) ml_X2_92 im_X2_setWord se_X2_setWord ii_X2 co_X2_setWord (by decide +kernel) ⟨Nat.le_of_ble_eq_true rfl, Nat.le_of_ble_eq_true rfl⟩ rfl rfl rfl rfl (Nat.le_of_ble_eq_true rfl) dX2_store_51 (fun r_51 σ_51 hc_51 => ?_)
        refine r_iconst X (v := 0) dX2_store_54 (by decide) ?_
        exact r_ireturn X dX2_store_55
set_option maxRecDepth 100000 in
set_option maxHeartbeats 4000000 in
theorem cl_X2_takeTables_22 (l : Launch) (D : va_G) (cI cZ : ClassId) (α : Nat → Nat) (A : Nat → Prop) (hJ : ∀ σ, va_D A ((kwX cI α) σ)) {p : Program} {e : Env} {s : State} {m : MethodId} {args : Array Value} {below : List Frame} {meth : Method} {c : Code} (X : CX p s m args meth c cX2_takeTables 5 RX2 D (tyA cI cZ) (kwX cI α) A (some .boolean)) : ∀ (n : Nat) (x1 : Int32) (x2 : Int32) (x3 : Int32) (x4 : Int32) (σ : KS), Cr p l e (rmd 5) s m args below meth c 5 D (kwX cI α) A vI 22 [(0, .ref (α 0)), (1, .int x1), (2, .int x2), (3, .int x3), (4, .int x4)] [] σ (f_X2_takeTables_22 n x1 x2 x3 x4 σ) := by
  intro n
  induction n with
  | zero => intros; exact r_none
  | succ n ih =>
    intro x1 x2 x3 x4 σ
    rw [f_X2_takeTables_22]
    refine r_iload X (j := 4) dX2_takeTables_22 rfl ?_
    refine r_if_lt X (tgt := 40) dX2_takeTables_24 (by decide) (fun _ => ?_) (fun _ => ?_)
    · refine r_iconst X (v := 0) dX2_takeTables_40 (by decide) ?_
      exact r_zreturn X (by decide) dX2_takeTables_41
    · refine r_aload_n X (j := 0) dX2_takeTables_27 rfl rfl ?_
      refine r_iload_n X (j := 1) dX2_takeTables_28 rfl rfl ?_
      refine r_iload X (j := 4) dX2_takeTables_29 rfl ?_
      refine r_callVv X (q0 := 0) (ci := 2) (n := 2) (As := [.int x1, .int x4]) (st := []) (c_X2_dropTable l D cI cZ α A hJ x1 x4 σ) ml_X2_178 im_X2_dropTable se_X2_dropTable ii_X2 co_X2_dropTable (by decide +kernel) ⟨Nat.le_of_ble_eq_true rfl, Nat.le_of_ble_eq_true rfl⟩ rfl rfl rfl rfl (Nat.le_of_ble_eq_true rfl) dX2_takeTables_31 (fun r_31 σ_31 hc_31 => ?_)
      refine r_iinc X (j := 4) (v := (x4 + (-16))) (lv' := [(4, .int (x4 + (-16))), (0, .ref (α 0)), (1, .int x1), (2, .int x2), (3, .int x3)]) dX2_takeTables_34 rfl rfl (by decide) rfl ?_
      refine r_goto X (tgt := 22) dX2_takeTables_37 (by decide) ?_
      refine r_sub (lv' := [(0, .ref (α 0)), (1, .int x1), (2, .int x2), (3, .int x3), (4, .int (x4 + (-16)))]) [1, 2, 3, 4, 0] rfl ?_
      exact ih x1 x2 x3 (x4 + (-16)) σ_31
set_option maxRecDepth 100000 in
set_option maxHeartbeats 4000000 in
theorem cl_X2_takeTables_2 (l : Launch) (D : va_G) (cI cZ : ClassId) (α : Nat → Nat) (A : Nat → Prop) (hJ : ∀ σ, va_D A ((kwX cI α) σ)) {p : Program} {e : Env} {s : State} {m : MethodId} {args : Array Value} {below : List Frame} {meth : Method} {c : Code} (X : CX p s m args meth c cX2_takeTables 5 RX2 D (tyA cI cZ) (kwX cI α) A (some .boolean)) : ∀ (n : Nat) (x1 : Int32) (x2 : Int32) (x3 : Int32) (σ : KS), Cr p l e (rmd 5) s m args below meth c 5 D (kwX cI α) A vI 2 [(0, .ref (α 0)), (1, .int x1), (2, .int x2), (3, .int x3)] [] σ (f_X2_takeTables_2 n x1 x2 x3 σ) := by
  intro n
  induction n with
  | zero => intros; exact r_none
  | succ n ih =>
    intro x1 x2 x3 σ
    rw [f_X2_takeTables_2]
    refine r_iload_n X (j := 3) dX2_takeTables_2 rfl rfl ?_
    refine r_iload_n X (j := 2) dX2_takeTables_3 rfl rfl ?_
    refine r_icmp_ge X (tgt := 48) dX2_takeTables_4 (by decide) (fun _ => ?_) (fun _ => ?_)
    · refine r_iconst X (v := 1) dX2_takeTables_48 (by decide) ?_
      exact r_zreturn X (by decide) dX2_takeTables_49
    · refine r_aload_n X (j := 0) dX2_takeTables_7 rfl rfl ?_
      refine r_iload_n X (j := 1) dX2_takeTables_8 rfl rfl ?_
      refine r_iload_n X (j := 3) dX2_takeTables_9 rfl rfl ?_
      refine r_callVi X (q0 := 0) (ci := 2) (n := 2) (As := [.int x1, .int x3]) (st := []) (c_X2_addTable l D cI cZ α A hJ x1 x3 σ) ml_X2_175 im_X2_addTable se_X2_addTable ii_X2 co_X2_addTable (by decide +kernel) ⟨Nat.le_of_ble_eq_true rfl, Nat.le_of_ble_eq_true rfl⟩ rfl rfl rfl rfl (Nat.le_of_ble_eq_true rfl) dX2_takeTables_10 (fun r_10 σ_10 hc_10 => ?_)
      refine r_if_ne X (tgt := 42) dX2_takeTables_13 (by decide) (fun _ => ?_) (fun _ => ?_)
      · refine r_iload_n X (j := 3) dX2_takeTables_16 rfl rfl ?_
        refine r_bipush X (v := 16) dX2_takeTables_17 (by decide) ?_
        refine r_isub X dX2_takeTables_19 ?_
        refine r_istore X (lv' := [(4, .int (x3 - 16)), (0, .ref (α 0)), (1, .int x1), (2, .int x2), (3, .int x3)]) dX2_takeTables_20 (by decide) rfl ?_
        refine r_sub (lv' := [(0, .ref (α 0)), (1, .int x1), (2, .int x2), (3, .int x3), (4, .int (x3 - 16))]) [1, 2, 3, 4, 0] rfl ?_
        exact cl_X2_takeTables_22 l D cI cZ α A hJ X FU x1 x2 x3 (x3 - 16) σ_10
      · refine r_iinc X (j := 3) (v := (x3 + 16)) (lv' := [(3, .int (x3 + 16)), (0, .ref (α 0)), (1, .int x1), (2, .int x2)]) dX2_takeTables_42 rfl rfl (by decide) rfl ?_
        refine r_goto X (tgt := 2) dX2_takeTables_45 (by decide) ?_
        refine r_sub (lv' := [(0, .ref (α 0)), (1, .int x1), (2, .int x2), (3, .int (x3 + 16))]) [1, 2, 3, 0] rfl ?_
        exact ih x1 x2 (x3 + 16) σ_10
set_option maxRecDepth 100000 in
set_option maxHeartbeats 4000000 in
theorem c_X2_takeTables (l : Launch) (D : va_G) (cI cZ : ClassId) (α : Nat → Nat) (A : Nat → Prop) (hJ : ∀ σ, va_D A ((kwX cI α) σ)) (x1 x2 : Int32) (σ : KS) : Ct l D (tyA cI cZ) (kwX cI α) A yX2_takeTables cX2_takeTables 5 (some .boolean) 5 vI [.ref (α 0), .int x1, .int x2] σ (m_X2_takeTables x1 x2 σ) := by
  refine Ct.of (own := RX2) hJ (by decide) rfl (Nat.le_of_ble_eq_true rfl) ?_
  intro p e s m args below meth c X
  refine r_sub (lv' := [(0, .ref (α 0)), (1, .int x1), (2, .int x2)]) [0, 1, 2] rfl ?_
  unfold m_X2_takeTables
  refine r_iconst X (v := 0) dX2_takeTables_0 (by decide) ?_
  refine r_istore_n X (lv' := [(3, .int 0), (0, .ref (α 0)), (1, .int x1), (2, .int x2)]) dX2_takeTables_1 rfl (by decide) rfl ?_
  refine r_sub (lv' := [(0, .ref (α 0)), (1, .int x1), (2, .int x2), (3, .int 0)]) [1, 2, 3, 0] rfl ?_
  exact cl_X2_takeTables_2 l D cI cZ α A hJ X FU x1 x2 0 σ
set_option maxRecDepth 100000 in
set_option maxHeartbeats 4000000 in
theorem c_X2_exit (l : Launch) (D : va_G) (cI cZ : ClassId) (α : Nat → Nat) (A : Nat → Prop) (hJ : ∀ σ, va_D A ((kwX cI α) σ)) (x1 x2 : Int32) (σ : KS) : Ct l D (tyA cI cZ) (kwX cI α) A yX2_exit cX2_exit 3 (some .int) 6 vI [.ref (α 0), .int x1, .int x2] σ (m_X2_exit x1 x2 σ) := by
  refine Ct.of (own := RX2) hJ (by decide) rfl (Nat.le_of_ble_eq_true rfl) ?_
  intro p e s m args below meth c X
  refine r_sub (lv' := [(0, .ref (α 0)), (1, .int x1), (2, .int x2)]) [0, 1, 2] rfl ?_
  unfold m_X2_exit
  refine r_aload_n X (j := 0) dX2_exit_0 rfl rfl ?_
  refine r_iload_n X (j := 1) dX2_exit_1 rfl rfl ?_
  refine r_callVi X (q0 := 0) (ci := 2) (n := 1) (As := [.int x1]) (st := []) (c_X2_isLive l D cI cZ α A hJ x1 σ) ml_X2_60 im_X2_isLive se_X2_isLive ii_X2 co_X2_isLive (by decide +kernel) ⟨Nat.le_of_ble_eq_true rfl, Nat.le_of_ble_eq_true rfl⟩ rfl rfl rfl rfl (Nat.le_of_ble_eq_true rfl) dX2_exit_2 (fun r_2 σ_2 hc_2 => ?_)
  refine r_if_ne X (tgt := 11) dX2_exit_5 (by decide) (fun _ => ?_) (fun _ => ?_)
  · refine r_bipush X (v := (-2)) dX2_exit_8 (by decide) ?_
    exact r_ireturn X dX2_exit_10
  · refine r_aload_n X (j := 0) dX2_exit_11 rfl rfl ?_
    refine r_iload_n X (j := 1) dX2_exit_12 rfl rfl ?_
    refine r_callVv X (q0 := 0) (ci := 2) (n := 1) (As := [.int x1]) (st := []) (c_X2_leaveRow l D cI cZ α A hJ x1 σ_2) ml_X2_95 im_X2_leaveRow se_X2_leaveRow ii_X2 co_X2_leaveRow (by decide +kernel) ⟨Nat.le_of_ble_eq_true rfl, Nat.le_of_ble_eq_true rfl⟩ rfl rfl rfl rfl (Nat.le_of_ble_eq_true rfl) dX2_exit_13 (fun r_13 σ_13 hc_13 => ?_)
    refine r_aload_n X (j := 0) dX2_exit_16 rfl rfl ?_
    refine r_iload_n X (j := 1) dX2_exit_17 rfl rfl ?_
    refine r_iconst X (v := 0) dX2_exit_18 (by decide) ?_
    refine r_callVv X (q0 := 0) (ci := 2) (n := 2) (As := [.int x1, .int 0]) (st := []) (c_X2_shrinkTo l D cI cZ α A hJ x1 0 σ_13) ml_X2_68 im_X2_shrinkTo se_X2_shrinkTo ii_X2 co_X2_shrinkTo (by decide +kernel) ⟨Nat.le_of_ble_eq_true rfl, Nat.le_of_ble_eq_true rfl⟩ rfl rfl rfl rfl (Nat.le_of_ble_eq_true rfl) dX2_exit_19 (fun r_19 σ_19 hc_19 => ?_)
    refine r_aload_n X (j := 0) dX2_exit_22 rfl rfl ?_
    refine r_iload_n X (j := 1) dX2_exit_23 rfl rfl ?_
    refine r_callVv X (q0 := 0) (ci := 2) (n := 1) (As := [.int x1]) (st := []) (c_X2_leaveChildren l D cI cZ α A hJ x1 σ_19) ml_X2_99 im_X2_leaveChildren se_X2_leaveChildren ii_X2 co_X2_leaveChildren (by decide +kernel) ⟨Nat.le_of_ble_eq_true rfl, Nat.le_of_ble_eq_true rfl⟩ rfl rfl rfl rfl (Nat.le_of_ble_eq_true rfl) dX2_exit_24 (fun r_24 σ_24 hc_24 => ?_)
    refine r_aload_n X (j := 0) dX2_exit_27 rfl rfl ?_
    refine r_get X (ci := 2) (q0 := 0) (v := .ref (α 12)) inX2 rfl rfl 7 (by decide) rfl fl_X2_41 dX2_exit_28 ?_
    refine r_iload_n X (j := 1) dX2_exit_31 rfl rfl ?_
    refine r_iald X (q0 := 12) (t0 := 0) (kk := 12) rfl rfl dX2_exit_32 ?_
    refine r_iconst X (v := (-1)) dX2_exit_33 (by decide) ?_
    refine r_icmp_ne X (tgt := 45) dX2_exit_34 (by decide) (fun _ => ?_) (fun _ => ?_)
    · refine r_aload_n X (j := 0) dX2_exit_37 rfl rfl ?_
      refine r_iload_n X (j := 1) dX2_exit_38 rfl rfl ?_
      refine r_callVv X (q0 := 0) (ci := 2) (n := 1) (As := [.int x1]) (st := []) (c_X2_removeProcess l D cI cZ α A hJ x1 σ_24) ml_X2_102 im_X2_removeProcess se_X2_removeProcess ii_X2 co_X2_removeProcess (by decide +kernel) ⟨Nat.le_of_ble_eq_true rfl, Nat.le_of_ble_eq_true rfl⟩ rfl rfl rfl rfl (Nat.le_of_ble_eq_true rfl) dX2_exit_39 (fun r_39 σ_39 hc_39 => ?_)
      refine r_goto X (tgt := 59) dX2_exit_42 (by decide) ?_
      refine r_iconst X (v := 0) dX2_exit_59 (by decide) ?_
      exact r_ireturn X dX2_exit_60
    · refine r_aload_n X (j := 0) dX2_exit_45 rfl rfl ?_
      refine r_get X (ci := 2) (q0 := 0) (v := .ref (α 11)) inX2 rfl rfl 6 (by decide) rfl fl_X2_38 dX2_exit_46 ?_
      refine r_iload_n X (j := 1) dX2_exit_49 rfl rfl ?_
      refine r_iconst X (v := 2) dX2_exit_50 (by decide) ?_
      refine r_iast X (q0 := 11) (t0 := 0) (kk := 11) rfl (fun _ => rfl) rfl dX2_exit_51 ?_
      refine r_aload_n X (j := 0) dX2_exit_52 rfl rfl ?_
      refine r_get X (ci := 2) (q0 := 0) (v := .ref (α 13)) inX2 rfl rfl 8 (by decide) rfl fl_X2_44 dX2_exit_53 ?_
      refine r_iload_n X (j := 1) dX2_exit_56 rfl rfl ?_
      refine r_iload_n X (j := 2) dX2_exit_57 rfl rfl ?_
      refine r_iast X (q0 := 13) (t0 := 0) (kk := 13) rfl (fun _ => rfl) rfl dX2_exit_58 ?_
      refine r_iconst X (v := 0) dX2_exit_59 (by decide) ?_
      exact r_ireturn X dX2_exit_60
set_option maxRecDepth 100000 in
set_option maxHeartbeats 4000000 in
theorem cl_X2_grow_44 (l : Launch) (D : va_G) (cI cZ : ClassId) (α : Nat → Nat) (A : Nat → Prop) (hJ : ∀ σ, va_D A ((kwX cI α) σ)) {p : Program} {e : Env} {s : State} {m : MethodId} {args : Array Value} {below : List Frame} {meth : Method} {c : Code} (X : CX p s m args meth c cX2_grow 6 RX2 D (tyA cI cZ) (kwX cI α) A (some .int)) : ∀ (n : Nat) (x1 : Int32) (x2 : Int32) (x3 : Int32) (x4 : Int32) (x5 : Int32) (σ : KS), Cr p l e (rmd 6) s m args below meth c 6 D (kwX cI α) A vI 44 [(0, .ref (α 0)), (1, .int x1), (2, .int x2), (3, .int x3), (4, .int x4), (5, .int x5)] [] σ (f_X2_grow_44 n x1 x2 x3 x4 x5 σ) := by
  intro n
  induction n with
  | zero => intros; exact r_none
  | succ n ih =>
    intro x1 x2 x3 x4 x5 σ
    rw [f_X2_grow_44]
    refine r_iload X (j := 5) dX2_grow_44 rfl ?_
    refine r_iload X (j := 4) dX2_grow_46 rfl ?_
    refine r_icmp_ge X (tgt := 78) dX2_grow_48 (by decide) (fun _ => ?_) (fun _ => ?_)
    · refine r_aload_n X (j := 0) dX2_grow_78 rfl rfl ?_
      refine r_iload_n X (j := 1) dX2_grow_79 rfl rfl ?_
      refine r_iload X (j := 4) dX2_grow_80 rfl ?_
      refine r_callVv X (q0 := 0) (ci := 2) (n := 2) (As := [.int x1, .int x4]) (st := []) (c_X2_shrinkTo l D cI cZ α A hJ x1 x4 σ) ml_X2_68 im_X2_shrinkTo se_X2_shrinkTo ii_X2 co_X2_shrinkTo (by decide +kernel) ⟨Nat.le_of_ble_eq_true rfl, Nat.le_of_ble_eq_true rfl⟩ rfl rfl rfl rfl (Nat.le_of_ble_eq_true rfl) dX2_grow_82 (fun r_82 σ_82 hc_82 => ?_)
      refine r_iload_n X (j := 3) dX2_grow_85 rfl rfl ?_
      exact r_ireturn X dX2_grow_86
    · refine r_aload_n X (j := 0) dX2_grow_51 rfl rfl ?_
      refine r_iload_n X (j := 1) dX2_grow_52 rfl rfl ?_
      refine r_iload X (j := 5) dX2_grow_53 rfl ?_
      refine r_callVi X (q0 := 0) (ci := 2) (n := 2) (As := [.int x1, .int x5]) (st := []) (c_X2_addPage l D cI cZ α A hJ x1 x5 σ) ml_X2_64 im_X2_addPage se_X2_addPage ii_X2 co_X2_addPage (by decide +kernel) ⟨Nat.le_of_ble_eq_true rfl, Nat.le_of_ble_eq_true rfl⟩ rfl rfl rfl rfl (Nat.le_of_ble_eq_true rfl) dX2_grow_55 (fun r_55 σ_55 hc_55 => ?_)
      refine r_if_ne X (tgt := 72) dX2_grow_58 (by decide) (fun _ => ?_) (fun _ => ?_)
      · refine r_aload_n X (j := 0) dX2_grow_61 rfl rfl ?_
        refine r_iload_n X (j := 1) dX2_grow_62 rfl rfl ?_
        refine r_iload_n X (j := 3) dX2_grow_63 rfl rfl ?_
        refine r_callVv X (q0 := 0) (ci := 2) (n := 2) (As := [.int x1, .int x3]) (st := []) (c_X2_shrinkTo l D cI cZ α A hJ x1 x3 σ_55) ml_X2_68 im_X2_shrinkTo se_X2_shrinkTo ii_X2 co_X2_shrinkTo (by decide +kernel) ⟨Nat.le_of_ble_eq_true rfl, Nat.le_of_ble_eq_true rfl⟩ rfl rfl rfl rfl (Nat.le_of_ble_eq_true rfl) dX2_grow_64 (fun r_64 σ_64 hc_64 => ?_)
        refine r_aload_n X (j := 0) dX2_grow_67 rfl rfl ?_
        refine r_callVi X (q0 := 0) (ci := 2) (n := 0) (As := []) (st := []) (c_X2_refuse l D cI cZ α A hJ σ_64) ml_X2_72 im_X2_refuse se_X2_refuse ii_X2 co_X2_refuse (by decide +kernel) ⟨Nat.le_of_ble_eq_true rfl, Nat.le_of_ble_eq_true rfl⟩ rfl rfl rfl rfl (Nat.le_of_ble_eq_true rfl) dX2_grow_68 (fun r_68 σ_68 hc_68 => ?_)
        exact r_ireturn X dX2_grow_71
      · refine r_iinc X (j := 5) (v := (x5 + 1)) (lv' := [(5, .int (x5 + 1)), (0, .ref (α 0)), (1, .int x1), (2, .int x2), (3, .int x3), (4, .int x4)]) dX2_grow_72 rfl rfl (by decide) rfl ?_
        refine r_goto X (tgt := 44) dX2_grow_75 (by decide) ?_
        refine r_sub (lv' := [(0, .ref (α 0)), (1, .int x1), (2, .int x2), (3, .int x3), (4, .int x4), (5, .int (x5 + 1))]) [1, 2, 3, 4, 5, 0] rfl ?_
        exact ih x1 x2 x3 x4 (x5 + 1) σ_55
set_option maxRecDepth 100000 in
set_option maxHeartbeats 4000000 in
theorem c_X2_grow (l : Launch) (D : va_G) (cI cZ : ClassId) (α : Nat → Nat) (A : Nat → Prop) (hJ : ∀ σ, va_D A ((kwX cI α) σ)) (x1 x2 : Int32) (σ : KS) : Ct l D (tyA cI cZ) (kwX cI α) A yX2_grow cX2_grow 6 (some .int) 6 vI [.ref (α 0), .int x1, .int x2] σ (m_X2_grow x1 x2 σ) := by
  refine Ct.of (own := RX2) hJ (by decide) rfl (Nat.le_of_ble_eq_true rfl) ?_
  intro p e s m args below meth c X
  refine r_sub (lv' := [(0, .ref (α 0)), (1, .int x1), (2, .int x2)]) [0, 1, 2] rfl ?_
  unfold m_X2_grow
  refine r_aload_n X (j := 0) dX2_grow_0 rfl rfl ?_
  refine r_iload_n X (j := 1) dX2_grow_1 rfl rfl ?_
  refine r_callVi X (q0 := 0) (ci := 2) (n := 1) (As := [.int x1]) (st := []) (c_X2_isLive l D cI cZ α A hJ x1 σ) ml_X2_60 im_X2_isLive se_X2_isLive ii_X2 co_X2_isLive (by decide +kernel) ⟨Nat.le_of_ble_eq_true rfl, Nat.le_of_ble_eq_true rfl⟩ rfl rfl rfl rfl (Nat.le_of_ble_eq_true rfl) dX2_grow_2 (fun r_2 σ_2 hc_2 => ?_)
  refine r_if_ne X (tgt := 11) dX2_grow_5 (by decide) (fun _ => ?_) (fun _ => ?_)
  · refine r_bipush X (v := (-2)) dX2_grow_8 (by decide) ?_
    exact r_ireturn X dX2_grow_10
  · refine r_aload_n X (j := 0) dX2_grow_11 rfl rfl ?_
    refine r_get X (ci := 2) (q0 := 0) (v := .ref (α 14)) inX2 rfl rfl 9 (by decide) rfl fl_X2_47 dX2_grow_12 ?_
    refine r_iload_n X (j := 1) dX2_grow_15 rfl rfl ?_
    refine r_iald X (q0 := 14) (t0 := 0) (kk := 14) rfl rfl dX2_grow_16 ?_
    refine r_istore_n X (lv' := [(3, .int (rd σ_2 14 x1)), (0, .ref (α 0)), (1, .int x1), (2, .int x2)]) dX2_grow_17 rfl (by decide) rfl ?_
    refine r_iload_n X (j := 3) dX2_grow_18 rfl rfl ?_
    refine r_iload_n X (j := 0) dX2_grow_19 rfl rfl ?_
    refine r_ineg X dX2_grow_20 ?_
    refine r_icmp_lt X (tgt := 33) dX2_grow_21 (by decide) (fun _ => ?_) (fun _ => ?_)
    · refine r_bipush X (v := (-2)) dX2_grow_33 (by decide) ?_
      exact r_ireturn X dX2_grow_35
    · refine r_iload_n X (j := 3) dX2_grow_24 rfl rfl ?_
      refine r_sipush X (v := 256) dX2_grow_25 (by decide) ?_
      refine r_iload_n X (j := 0) dX2_grow_28 rfl rfl ?_
      refine r_isub X dX2_grow_29 ?_
      refine r_icmp_le X (tgt := 36) dX2_grow_30 (by decide) (fun _ => ?_) (fun _ => ?_)
      · refine r_iload_n X (j := 0) dX2_grow_36 rfl rfl ?_
        refine r_iload_n X (j := 3) dX2_grow_37 rfl rfl ?_
        refine r_iadd X dX2_grow_38 ?_
        refine r_istore X (lv' := [(4, .int ((rd σ_2 14 x1) + x2)), (3, .int (rd σ_2 14 x1)), (0, .ref (α 0)), (1, .int x1), (2, .int x2)]) dX2_grow_39 (by decide) rfl ?_
        refine r_iload_n X (j := 1) dX2_grow_41 rfl rfl ?_
        refine r_istore X (lv' := [(5, .int (rd σ_2 14 x1)), (4, .int ((rd σ_2 14 x1) + x2)), (3, .int (rd σ_2 14 x1)), (0, .ref (α 0)), (1, .int x1), (2, .int x2)]) dX2_grow_42 (by decide) rfl ?_
        refine r_sub (lv' := [(0, .ref (α 0)), (1, .int x1), (2, .int x2), (3, .int (rd σ_2 14 x1)), (4, .int ((rd σ_2 14 x1) + x2)), (5, .int (rd σ_2 14 x1))]) [3, 4, 5, 2, 1, 0] rfl ?_
        exact cl_X2_grow_44 l D cI cZ α A hJ X FU x1 x2 (rd σ_2 14 x1) ((rd σ_2 14 x1) + x2) (rd σ_2 14 x1) σ_2
      · refine r_bipush X (v := (-2)) dX2_grow_33 (by decide) ?_
        exact r_ireturn X dX2_grow_35
set_option maxRecDepth 100000 in
set_option maxHeartbeats 4000000 in
theorem c_X2_makeProcess (l : Launch) (D : va_G) (cI cZ : ClassId) (α : Nat → Nat) (A : Nat → Prop) (hJ : ∀ σ, va_D A ((kwX cI α) σ)) (x1 : Int32) (σ : KS) : Ct l D (tyA cI cZ) (kwX cI α) A yX2_makeProcess cX2_makeProcess 4 (some .int) 6 vI [.ref (α 0), .int x1] σ (m_X2_makeProcess x1 σ) := by
  refine Ct.of (own := RX2) hJ (by decide) rfl (Nat.le_of_ble_eq_true rfl) ?_
  intro p e s m args below meth c X
  refine r_sub (lv' := [(0, .ref (α 0)), (1, .int x1)]) [0, 1] rfl ?_
  unfold m_X2_makeProcess
  refine r_aload_n X (j := 0) dX2_makeProcess_0 rfl rfl ?_
  refine r_callVi X (q0 := 0) (ci := 2) (n := 0) (As := []) (st := []) (c_X2_leastUnused l D cI cZ α A hJ σ) ml_X2_160 im_X2_leastUnused se_X2_leastUnused ii_X2 co_X2_leastUnused (by decide +kernel) ⟨Nat.le_of_ble_eq_true rfl, Nat.le_of_ble_eq_true rfl⟩ rfl rfl rfl rfl (Nat.le_of_ble_eq_true rfl) dX2_makeProcess_1 (fun r_1 σ_1 hc_1 => ?_)
  refine r_istore_n X (lv' := [(2, .int r_1), (0, .ref (α 0)), (1, .int x1)]) dX2_makeProcess_4 rfl (by decide) rfl ?_
  refine r_iload_n X (j := 0) dX2_makeProcess_5 rfl rfl ?_
  refine r_callSi X (n := 1) (As := [.int r_1]) (st := []) (c_X2_isNumber l D cI cZ α A hJ r_1 σ_1) ml_X2_145 sm_X2_isNumber ii_X2 co_X2_isNumber (by decide +kernel) ⟨Nat.le_of_ble_eq_true rfl, Nat.le_of_ble_eq_true rfl⟩ rfl rfl (Nat.le_of_ble_eq_true rfl) dX2_makeProcess_6 (fun r_6 σ_6 hc_6 => ?_)
  refine r_if_ne X (tgt := 15) dX2_makeProcess_9 (by decide) (fun _ => ?_) (fun _ => ?_)
  · refine r_bipush X (v := (-4)) dX2_makeProcess_12 (by decide) ?_
    exact r_ireturn X dX2_makeProcess_14
  · refine r_aload_n X (j := 1) dX2_makeProcess_15 rfl rfl ?_
    refine r_get X (ci := 2) (q0 := 0) (v := .ref (α 2)) inX2 rfl rfl 1 (by decide) rfl fl_X2_21 dX2_makeProcess_16 ?_
    refine r_callVi X (q0 := 2) (ci := 1) (n := 0) (As := []) (st := []) (c_X1r_takePlace l D cI cZ α A hJ σ_6) ml_X2_163 im_X1_takePlace se_X1_takePlace ii_X1 co_X1_takePlace (by decide +kernel) ⟨Nat.le_of_ble_eq_true rfl, Nat.le_of_ble_eq_true rfl⟩ rfl rfl rfl rfl (Nat.le_of_ble_eq_true rfl) dX2_makeProcess_19 (fun r_19 σ_19 hc_19 => ?_)
    refine r_istore_n X (lv' := [(3, .int r_19), (2, .int r_1), (0, .ref (α 0)), (1, .int x1)]) dX2_makeProcess_22 rfl (by decide) rfl ?_
    refine r_iload_n X (j := 0) dX2_makeProcess_23 rfl rfl ?_
    refine r_iconst X (v := (-1)) dX2_makeProcess_24 (by decide) ?_
    refine r_icmp_ne X (tgt := 33) dX2_makeProcess_25 (by decide) (fun _ => ?_) (fun _ => ?_)
    · refine r_aload_n X (j := 2) dX2_makeProcess_28 rfl rfl ?_
      refine r_callVi X (q0 := 0) (ci := 2) (n := 0) (As := []) (st := []) (c_X2_refuse l D cI cZ α A hJ σ_19) ml_X2_72 im_X2_refuse se_X2_refuse ii_X2 co_X2_refuse (by decide +kernel) ⟨Nat.le_of_ble_eq_true rfl, Nat.le_of_ble_eq_true rfl⟩ rfl rfl rfl rfl (Nat.le_of_ble_eq_true rfl) dX2_makeProcess_29 (fun r_29 σ_29 hc_29 => ?_)
      exact r_ireturn X dX2_makeProcess_32
    · refine r_aload_n X (j := 2) dX2_makeProcess_33 rfl rfl ?_
      refine r_get X (ci := 2) (q0 := 0) (v := .ref (α 15)) inX2 rfl rfl 10 (by decide) rfl fl_X2_50 dX2_makeProcess_34 ?_
      refine r_iload_n X (j := 1) dX2_makeProcess_37 rfl rfl ?_
      refine r_iload_n X (j := 0) dX2_makeProcess_38 rfl rfl ?_
      refine r_iast X (q0 := 15) (t0 := 0) (kk := 15) rfl (fun _ => rfl) rfl dX2_makeProcess_39 ?_
      refine r_aload_n X (j := 2) dX2_makeProcess_40 rfl rfl ?_
      refine r_iload_n X (j := 3) dX2_makeProcess_41 rfl rfl ?_
      refine r_callVi X (q0 := 0) (ci := 2) (n := 1) (As := [.int x1]) (st := []) (c_X2_isLive l D cI cZ α A hJ x1 (wr σ_19 15 r_1 r_19)) ml_X2_60 im_X2_isLive se_X2_isLive ii_X2 co_X2_isLive (by decide +kernel) ⟨Nat.le_of_ble_eq_true rfl, Nat.le_of_ble_eq_true rfl⟩ rfl rfl rfl rfl (Nat.le_of_ble_eq_true rfl) dX2_makeProcess_42 (fun r_42 σ_42 hc_42 => ?_)
      refine r_if_eq X (tgt := 81) dX2_makeProcess_45 (by decide) (fun _ => ?_) (fun _ => ?_)
      · refine r_aload_n X (j := 2) dX2_makeProcess_81 rfl rfl ?_
        refine r_get X (ci := 2) (q0 := 0) (v := .ref (α 11)) inX2 rfl rfl 6 (by decide) rfl fl_X2_38 dX2_makeProcess_82 ?_
        refine r_iload_n X (j := 1) dX2_makeProcess_85 rfl rfl ?_
        refine r_iconst X (v := 1) dX2_makeProcess_86 (by decide) ?_
        refine r_iast X (q0 := 11) (t0 := 0) (kk := 11) rfl (fun _ => rfl) rfl dX2_makeProcess_87 ?_
        refine r_aload_n X (j := 2) dX2_makeProcess_88 rfl rfl ?_
        refine r_get X (ci := 2) (q0 := 0) (v := .ref (α 12)) inX2 rfl rfl 7 (by decide) rfl fl_X2_41 dX2_makeProcess_89 ?_
        refine r_iload_n X (j := 1) dX2_makeProcess_92 rfl rfl ?_
        refine r_iload_n X (j := 3) dX2_makeProcess_93 rfl rfl ?_
        refine r_iast X (q0 := 12) (t0 := 0) (kk := 12) rfl (fun _ => rfl) rfl dX2_makeProcess_94 ?_
        refine r_aload_n X (j := 2) dX2_makeProcess_95 rfl rfl ?_
        refine r_iload_n X (j := 1) dX2_makeProcess_96 rfl rfl ?_
        refine r_callVv X (q0 := 0) (ci := 2) (n := 1) (As := [.int r_1]) (st := []) (c_X2_joinRow l D cI cZ α A hJ r_1 (wr (wr σ_42 11 r_1 1) 12 r_1 x1)) ml_X2_112 im_X2_joinRow se_X2_joinRow ii_X2 co_X2_joinRow (by decide +kernel) ⟨Nat.le_of_ble_eq_true rfl, Nat.le_of_ble_eq_true rfl⟩ rfl rfl rfl rfl (Nat.le_of_ble_eq_true rfl) dX2_makeProcess_97 (fun r_97 σ_97 hc_97 => ?_)
        refine r_iload_n X (j := 1) dX2_makeProcess_100 rfl rfl ?_
        exact r_ireturn X dX2_makeProcess_101
      · refine r_aload_n X (j := 2) dX2_makeProcess_48 rfl rfl ?_
        refine r_iload_n X (j := 1) dX2_makeProcess_49 rfl rfl ?_
        refine r_aload_n X (j := 2) dX2_makeProcess_50 rfl rfl ?_
        refine r_get X (ci := 2) (q0 := 0) (v := .ref (α 14)) inX2 rfl rfl 9 (by decide) rfl fl_X2_47 dX2_makeProcess_51 ?_
        refine r_iload_n X (j := 3) dX2_makeProcess_54 rfl rfl ?_
        refine r_iald X (q0 := 14) (t0 := 0) (kk := 14) rfl rfl dX2_makeProcess_55 ?_
        refine r_callVi X (q0 := 0) (ci := 2) (n := 2) (As := [.int r_1, .int (rd σ_42 14 x1)]) (st := []) (c_X2_takeTables l D cI cZ α A hJ r_1 (rd σ_42 14 x1) σ_42) ml_X2_166 im_X2_takeTables se_X2_takeTables ii_X2 co_X2_takeTables (by decide +kernel) ⟨Nat.le_of_ble_eq_true rfl, Nat.le_of_ble_eq_true rfl⟩ rfl rfl rfl rfl (Nat.le_of_ble_eq_true rfl) dX2_makeProcess_56 (fun r_56 σ_56 hc_56 => ?_)
        refine r_if_ne X (tgt := 75) dX2_makeProcess_59 (by decide) (fun _ => ?_) (fun _ => ?_)
        · refine r_aload_n X (j := 2) dX2_makeProcess_62 rfl rfl ?_
          refine r_get X (ci := 2) (q0 := 0) (v := .ref (α 2)) inX2 rfl rfl 1 (by decide) rfl fl_X2_21 dX2_makeProcess_63 ?_
          refine r_iload_n X (j := 0) dX2_makeProcess_66 rfl rfl ?_
          refine r_callVv X (q0 := 2) (ci := 1) (n := 1) (As := [.int r_19]) (st := []) (c_X1r_givePlace l D cI cZ α A hJ r_19 σ_56) ml_X2_169 im_X1_givePlace se_X1_givePlace ii_X1 co_X1_givePlace (by decide +kernel) ⟨Nat.le_of_ble_eq_true rfl, Nat.le_of_ble_eq_true rfl⟩ rfl rfl rfl rfl (Nat.le_of_ble_eq_true rfl) dX2_makeProcess_67 (fun r_67 σ_67 hc_67 => ?_)
          refine r_aload_n X (j := 2) dX2_makeProcess_70 rfl rfl ?_
          refine r_callVi X (q0 := 0) (ci := 2) (n := 0) (As := []) (st := []) (c_X2_refuse l D cI cZ α A hJ σ_67) ml_X2_72 im_X2_refuse se_X2_refuse ii_X2 co_X2_refuse (by decide +kernel) ⟨Nat.le_of_ble_eq_true rfl, Nat.le_of_ble_eq_true rfl⟩ rfl rfl rfl rfl (Nat.le_of_ble_eq_true rfl) dX2_makeProcess_71 (fun r_71 σ_71 hc_71 => ?_)
          exact r_ireturn X dX2_makeProcess_74
        · refine r_aload_n X (j := 2) dX2_makeProcess_75 rfl rfl ?_
          refine r_iload_n X (j := 3) dX2_makeProcess_76 rfl rfl ?_
          refine r_iload_n X (j := 1) dX2_makeProcess_77 rfl rfl ?_
          refine r_callVv X (q0 := 0) (ci := 2) (n := 2) (As := [.int x1, .int r_1]) (st := []) (c_X2_sharePages l D cI cZ α A hJ x1 r_1 σ_56) ml_X2_172 im_X2_sharePages se_X2_sharePages ii_X2 co_X2_sharePages (by decide +kernel) ⟨Nat.le_of_ble_eq_true rfl, Nat.le_of_ble_eq_true rfl⟩ rfl rfl rfl rfl (Nat.le_of_ble_eq_true rfl) dX2_makeProcess_78 (fun r_78 σ_78 hc_78 => ?_)
          refine r_aload_n X (j := 2) dX2_makeProcess_81 rfl rfl ?_
          refine r_get X (ci := 2) (q0 := 0) (v := .ref (α 11)) inX2 rfl rfl 6 (by decide) rfl fl_X2_38 dX2_makeProcess_82 ?_
          refine r_iload_n X (j := 1) dX2_makeProcess_85 rfl rfl ?_
          refine r_iconst X (v := 1) dX2_makeProcess_86 (by decide) ?_
          refine r_iast X (q0 := 11) (t0 := 0) (kk := 11) rfl (fun _ => rfl) rfl dX2_makeProcess_87 ?_
          refine r_aload_n X (j := 2) dX2_makeProcess_88 rfl rfl ?_
          refine r_get X (ci := 2) (q0 := 0) (v := .ref (α 12)) inX2 rfl rfl 7 (by decide) rfl fl_X2_41 dX2_makeProcess_89 ?_
          refine r_iload_n X (j := 1) dX2_makeProcess_92 rfl rfl ?_
          refine r_iload_n X (j := 3) dX2_makeProcess_93 rfl rfl ?_
          refine r_iast X (q0 := 12) (t0 := 0) (kk := 12) rfl (fun _ => rfl) rfl dX2_makeProcess_94 ?_
          refine r_aload_n X (j := 2) dX2_makeProcess_95 rfl rfl ?_
          refine r_iload_n X (j := 1) dX2_makeProcess_96 rfl rfl ?_
          refine r_callVv X (q0 := 0) (ci := 2) (n := 1) (As := [.int r_1]) (st := []) (c_X2_joinRow l D cI cZ α A hJ r_1 (wr (wr σ_78 11 r_1 1) 12 r_1 x1)) ml_X2_112 im_X2_joinRow se_X2_joinRow ii_X2 co_X2_joinRow (by decide +kernel) ⟨Nat.le_of_ble_eq_true rfl, Nat.le_of_ble_eq_true rfl⟩ rfl rfl rfl rfl (Nat.le_of_ble_eq_true rfl) dX2_makeProcess_97 (fun r_97 σ_97 hc_97 => ?_)
          refine r_iload_n X (j := 1) dX2_makeProcess_100 rfl rfl ?_
          exact r_ireturn X dX2_makeProcess_101
set_option maxRecDepth 100000 in
set_option maxHeartbeats 4000000 in
theorem c_X2_fork (l : Launch) (D : va_G) (cI cZ : ClassId) (α : Nat → Nat) (A : Nat → Prop) (hJ : ∀ σ, va_D A ((kwX cI α) σ)) (x1 : Int32) (σ : KS) : Ct l D (tyA cI cZ) (kwX cI α) A yX2_fork cX2_fork 2 (some .int) 7 vI [.ref (α 0), .int x1] σ (m_X2_fork x1 σ) := by
  refine Ct.of (own := RX2) hJ (by decide) rfl (Nat.le_of_ble_eq_true rfl) ?_
  intro p e s m args below meth c X
  refine r_sub (lv' := [(0, .ref (α 0)), (1, .int x1)]) [0, 1] rfl ?_
  unfold m_X2_fork
  refine r_aload_n X (j := 0) dX2_fork_0 rfl rfl ?_
  refine r_iload_n X (j := 1) dX2_fork_1 rfl rfl ?_
  refine r_callVi X (q0 := 0) (ci := 2) (n := 1) (As := [.int x1]) (st := []) (c_X2_isLive l D cI cZ α A hJ x1 σ) ml_X2_60 im_X2_isLive se_X2_isLive ii_X2 co_X2_isLive (by decide +kernel) ⟨Nat.le_of_ble_eq_true rfl, Nat.le_of_ble_eq_true rfl⟩ rfl rfl rfl rfl (Nat.le_of_ble_eq_true rfl) dX2_fork_2 (fun r_2 σ_2 hc_2 => ?_)
  refine r_if_eq X (tgt := 16) dX2_fork_5 (by decide) (fun _ => ?_) (fun _ => ?_)
  · refine r_bipush X (v := (-2)) dX2_fork_16 (by decide) ?_
    exact r_ireturn X dX2_fork_18
  · refine r_aload_n X (j := 0) dX2_fork_8 rfl rfl ?_
    refine r_iload_n X (j := 1) dX2_fork_9 rfl rfl ?_
    refine r_callVi X (q0 := 0) (ci := 2) (n := 1) (As := [.int x1]) (st := []) (c_X2_makeProcess l D cI cZ α A hJ x1 σ_2) ml_X2_56 im_X2_makeProcess se_X2_makeProcess ii_X2 co_X2_makeProcess (by decide +kernel) ⟨Nat.le_of_ble_eq_true rfl, Nat.le_of_ble_eq_true rfl⟩ rfl rfl rfl rfl (Nat.le_of_ble_eq_true rfl) dX2_fork_10 (fun r_10 σ_10 hc_10 => ?_)
    refine r_goto X (tgt := 18) dX2_fork_13 (by decide) ?_
    exact r_ireturn X dX2_fork_18
set_option maxRecDepth 100000 in
set_option maxHeartbeats 4000000 in
theorem c_X2_spawn (l : Launch) (D : va_G) (cI cZ : ClassId) (α : Nat → Nat) (A : Nat → Prop) (hJ : ∀ σ, va_D A ((kwX cI α) σ)) (σ : KS) : Ct l D (tyA cI cZ) (kwX cI α) A yX2_spawn cX2_spawn 1 (some .int) 7 vI [.ref (α 0)] σ (m_X2_spawn σ) := by
  refine Ct.of (own := RX2) hJ (by decide) rfl (Nat.le_of_ble_eq_true rfl) ?_
  intro p e s m args below meth c X
  refine r_sub (lv' := [(0, .ref (α 0))]) [0] rfl ?_
  unfold m_X2_spawn
  refine r_aload_n X (j := 0) dX2_spawn_0 rfl rfl ?_
  refine r_iconst X (v := (-1)) dX2_spawn_1 (by decide) ?_
  refine r_callVi X (q0 := 0) (ci := 2) (n := 1) (As := [.int (-1)]) (st := []) (c_X2_makeProcess l D cI cZ α A hJ (-1) σ) ml_X2_56 im_X2_makeProcess se_X2_makeProcess ii_X2 co_X2_makeProcess (by decide +kernel) ⟨Nat.le_of_ble_eq_true rfl, Nat.le_of_ble_eq_true rfl⟩ rfl rfl rfl rfl (Nat.le_of_ble_eq_true rfl) dX2_spawn_2 (fun r_2 σ_2 hc_2 => ?_)
  exact r_ireturn X dX2_spawn_5
