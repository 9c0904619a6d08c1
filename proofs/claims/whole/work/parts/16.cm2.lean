set_option maxRecDepth 100000 in
set_option maxHeartbeats 4000000 in
theorem cl_X3_process_27 (l : Launch) (D : va_G) (cI cZ : ClassId) (α : Nat → Nat) (A : Nat → Prop) (hJ : ∀ σ, va_D A ((kwM cI cZ α) σ)) {p : Program} {e : Env} {s : State} {m : MethodId} {args : Array Value} {below : List Frame} {meth : Method} {c : Code} (X : CX p s m args meth c cX3_process 5 RX3 D (tyA cI cZ) (kwM cI cZ α) A (some .int)) : ∀ (n : Nat) (x1 : Int32) (x2 : Int32) (x3 : Int32) (x4 : Int32) (σ : KS), Cr p l e (rmd 1) s m args below meth c 5 D (kwM cI cZ α) A vI 27 [(0, .ref (α 0)), (1, .int x1), (2, .int x2), (3, .int x3), (4, .int x4)] [] σ (f_X3_process_27 n x1 x2 x3 x4 σ) := by
  intro n
  induction n with
  | zero => intros; exact r_none
  | succ n ih =>
    intro x1 x2 x3 x4 σ
    rw [f_X3_process_27]
    refine r_iload X (j := 4) dX3_process_27 rfl ?_
    refine r_bipush X (v := 16) dX3_process_29 (by decide) ?_
    refine r_icmp_ge X (tgt := 69) dX3_process_31 (by decide) (fun _ => ?_) (fun _ => ?_)
    · refine r_iload_n X (j := 2) dX3_process_69 rfl rfl ?_
      refine r_ite (fun hs0 => ?_) (fun hs0 => ?_)
      · refine r_tabIn X (off := 30) (tgt := 100) dX3_process_70 (by rw [hs0]; decide) (by rw [hs0]; decide) (by rw [hs0]; decide) (by decide) ?_
        refine r_aload_n X (j := 0) dX3_process_100 rfl rfl ?_
        refine r_get X (ci := 3) (q0 := 0) (v := .ref (α 6)) inX3 rfl rfl 5 (by decide) rfl fl_X3_26 dX3_process_101 ?_
        refine r_iload_n X (j := 1) dX3_process_104 rfl rfl ?_
        refine r_iald X (q0 := 6) (t0 := 0) (kk := 6) rfl rfl dX3_process_105 ?_
        exact r_ireturn X dX3_process_106
      · refine r_ite (fun hs1 => ?_) (fun hs1 => ?_)
        · refine r_tabIn X (off := 37) (tgt := 107) dX3_process_70 (by rw [hs1]; decide) (by rw [hs1]; decide) (by rw [hs1]; decide) (by decide) ?_
          refine r_aload_n X (j := 0) dX3_process_107 rfl rfl ?_
          refine r_get X (ci := 3) (q0 := 0) (v := .ref (α 6)) inX3 rfl rfl 5 (by decide) rfl fl_X3_26 dX3_process_108 ?_
          refine r_iload_n X (j := 1) dX3_process_111 rfl rfl ?_
          refine r_iald X (q0 := 6) (t0 := 0) (kk := 6) rfl rfl dX3_process_112 ?_
          refine r_iconst X (v := 1) dX3_process_113 (by decide) ?_
          refine r_icmp_ne X (tgt := 126) dX3_process_114 (by decide) (fun _ => ?_) (fun _ => ?_)
          · refine r_aload_n X (j := 0) dX3_process_117 rfl rfl ?_
            refine r_get X (ci := 3) (q0 := 0) (v := .ref (α 7)) inX3 rfl rfl 6 (by decide) rfl fl_X3_29 dX3_process_118 ?_
            refine r_iload_n X (j := 1) dX3_process_121 rfl rfl ?_
            refine r_iald X (q0 := 7) (t0 := 0) (kk := 7) rfl rfl dX3_process_122 ?_
            refine r_goto X (tgt := 127) dX3_process_123 (by decide) ?_
            exact r_ireturn X dX3_process_127
          · refine r_iconst X (v := 0) dX3_process_126 (by decide) ?_
            exact r_ireturn X dX3_process_127
        · refine r_ite (fun hs2 => ?_) (fun hs2 => ?_)
          · refine r_tabIn X (off := 58) (tgt := 128) dX3_process_70 (by rw [hs2]; decide) (by rw [hs2]; decide) (by rw [hs2]; decide) (by decide) ?_
            refine r_aload_n X (j := 0) dX3_process_128 rfl rfl ?_
            refine r_get X (ci := 3) (q0 := 0) (v := .ref (α 6)) inX3 rfl rfl 5 (by decide) rfl fl_X3_26 dX3_process_129 ?_
            refine r_iload_n X (j := 1) dX3_process_132 rfl rfl ?_
            refine r_iald X (q0 := 6) (t0 := 0) (kk := 6) rfl rfl dX3_process_133 ?_
            refine r_if_ne X (tgt := 141) dX3_process_134 (by decide) (fun _ => ?_) (fun _ => ?_)
            · refine r_iconst X (v := (-1)) dX3_process_137 (by decide) ?_
              refine r_goto X (tgt := 147) dX3_process_138 (by decide) ?_
              exact r_ireturn X dX3_process_147
            · refine r_aload_n X (j := 0) dX3_process_141 rfl rfl ?_
              refine r_get X (ci := 3) (q0 := 0) (v := .ref (α 8)) inX3 rfl rfl 7 (by decide) rfl fl_X3_32 dX3_process_142 ?_
              refine r_iload_n X (j := 1) dX3_process_145 rfl rfl ?_
              refine r_iald X (q0 := 8) (t0 := 0) (kk := 8) rfl rfl dX3_process_146 ?_
              exact r_ireturn X dX3_process_147
          · refine r_ite (fun hs3 => ?_) (fun hs3 => ?_)
            · refine r_tabIn X (off := 78) (tgt := 148) dX3_process_70 (by rw [hs3]; decide) (by rw [hs3]; decide) (by rw [hs3]; decide) (by decide) ?_
              refine r_iload_n X (j := 3) dX3_process_148 rfl rfl ?_
              exact r_ireturn X dX3_process_149
            · refine r_tabOut X (tgt := 150) dX3_process_70 (by have hq0 := lv_neT hs0 (a := 0) (by decide); have hq1 := lv_neT hs1 (a := 1) (by decide); have hq2 := lv_neT hs2 (a := 2) (by decide); have hq3 := lv_neT hs3 (a := 3) (by decide); omega) (by decide) ?_
              refine r_aload_n X (j := 0) dX3_process_150 rfl rfl ?_
              refine r_iload_n X (j := 1) dX3_process_151 rfl rfl ?_
              refine r_callVi X (q0 := 0) (ci := 3) (n := 1) (As := [.int x1]) (st := []) (c_X3_placeInRow l D cI cZ α A hJ x1 σ) ml_X3_125 im_X3_placeInRow se_X3_placeInRow ii_X3 co_X3_placeInRow (by decide +kernel) ⟨Nat.le_of_ble_eq_true rfl, Nat.le_of_ble_eq_true rfl⟩ rfl rfl rfl rfl (Nat.le_of_ble_eq_true rfl) dX3_process_152 (fun r_152 σ_152 hc_152 => ?_)
              exact r_ireturn X dX3_process_155
    · refine r_iload_n X (j := 3) dX3_process_34 rfl rfl ?_
      refine r_aload_n X (j := 0) dX3_process_35 rfl rfl ?_
      refine r_get X (ci := 3) (q0 := 0) (v := .ref (α 6)) inX3 rfl rfl 5 (by decide) rfl fl_X3_26 dX3_process_36 ?_
      refine r_iload X (j := 4) dX3_process_39 rfl ?_
      refine r_iald X (q0 := 6) (t0 := 0) (kk := 6) rfl rfl dX3_process_41 ?_
      refine r_if_eq X (tgt := 60) dX3_process_42 (by decide) (fun _ => ?_) (fun _ => ?_)
      · refine r_iconst X (v := 0) dX3_process_60 (by decide) ?_
        refine r_iadd X dX3_process_61 ?_
        refine r_istore_n X (lv' := [(3, .int (x3 + 0)), (0, .ref (α 0)), (1, .int x1), (2, .int x2), (4, .int x4)]) dX3_process_62 rfl (by decide) rfl ?_
        refine r_iinc X (j := 4) (v := (x4 + 1)) (lv' := [(4, .int (x4 + 1)), (3, .int (x3 + 0)), (0, .ref (α 0)), (1, .int x1), (2, .int x2)]) dX3_process_63 rfl rfl (by decide) rfl ?_
        refine r_goto X (tgt := 27) dX3_process_66 (by decide) ?_
        refine r_sub (lv' := [(0, .ref (α 0)), (1, .int x1), (2, .int x2), (3, .int (x3 + 0)), (4, .int (x4 + 1))]) [2, 3, 4, 1, 0] rfl ?_
        exact ih x1 x2 (x3 + 0) (x4 + 1) σ
      · refine r_aload_n X (j := 0) dX3_process_45 rfl rfl ?_
        refine r_get X (ci := 3) (q0 := 0) (v := .ref (α 8)) inX3 rfl rfl 7 (by decide) rfl fl_X3_32 dX3_process_46 ?_
        refine r_iload X (j := 4) dX3_process_49 rfl ?_
        refine r_iald X (q0 := 8) (t0 := 0) (kk := 8) rfl rfl dX3_process_51 ?_
        refine r_iload_n X (j := 1) dX3_process_52 rfl rfl ?_
        refine r_icmp_ne X (tgt := 60) dX3_process_53 (by decide) (fun _ => ?_) (fun _ => ?_)
        · refine r_iconst X (v := 1) dX3_process_56 (by decide) ?_
          refine r_goto X (tgt := 61) dX3_process_57 (by decide) ?_
          refine r_iadd X dX3_process_61 ?_
          refine r_istore_n X (lv' := [(3, .int (x3 + 1)), (0, .ref (α 0)), (1, .int x1), (2, .int x2), (4, .int x4)]) dX3_process_62 rfl (by decide) rfl ?_
          refine r_iinc X (j := 4) (v := (x4 + 1)) (lv' := [(4, .int (x4 + 1)), (3, .int (x3 + 1)), (0, .ref (α 0)), (1, .int x1), (2, .int x2)]) dX3_process_63 rfl rfl (by decide) rfl ?_
          refine r_goto X (tgt := 27) dX3_process_66 (by decide) ?_
          refine r_sub (lv' := [(0, .ref (α 0)), (1, .int x1), (2, .int x2), (3, .int (x3 + 1)), (4, .int (x4 + 1))]) [2, 3, 4, 1, 0] rfl ?_
          exact ih x1 x2 (x3 + 1) (x4 + 1) σ
        · refine r_iconst X (v := 0) dX3_process_60 (by decide) ?_
          refine r_iadd X dX3_process_61 ?_
          refine r_istore_n X (lv' := [(3, .int (x3 + 0)), (0, .ref (α 0)), (1, .int x1), (2, .int x2), (4, .int x4)]) dX3_process_62 rfl (by decide) rfl ?_
          refine r_iinc X (j := 4) (v := (x4 + 1)) (lv' := [(4, .int (x4 + 1)), (3, .int (x3 + 0)), (0, .ref (α 0)), (1, .int x1), (2, .int x2)]) dX3_process_63 rfl rfl (by decide) rfl ?_
          refine r_goto X (tgt := 27) dX3_process_66 (by decide) ?_
          refine r_sub (lv' := [(0, .ref (α 0)), (1, .int x1), (2, .int x2), (3, .int (x3 + 0)), (4, .int (x4 + 1))]) [2, 3, 4, 1, 0] rfl ?_
          exact ih x1 x2 (x3 + 0) (x4 + 1) σ
set_option maxRecDepth 100000 in
set_option maxHeartbeats 4000000 in
theorem c_X3_process (l : Launch) (D : va_G) (cI cZ : ClassId) (α : Nat → Nat) (A : Nat → Prop) (hJ : ∀ σ, va_D A ((kwM cI cZ α) σ)) (x1 x2 : Int32) (σ : KS) : Ct l D (tyA cI cZ) (kwM cI cZ α) A yX3_process cX3_process 5 (some .int) 1 vI [.ref (α 0), .int x1, .int x2] σ (m_X3_process x1 x2 σ) := by
  refine Ct.of (own := RX3) hJ (by decide) rfl (Nat.le_of_ble_eq_true rfl) ?_
  intro p e s m args below meth c X
  refine r_sub (lv' := [(0, .ref (α 0)), (1, .int x1), (2, .int x2)]) [0, 1, 2] rfl ?_
  unfold m_X3_process
  refine r_iload_n X (j := 1) dX3_process_0 rfl rfl ?_
  refine r_if_lt X (tgt := 19) dX3_process_1 (by decide) (fun _ => ?_) (fun _ => ?_)
  · refine r_bipush X (v := (-2)) dX3_process_19 (by decide) ?_
    exact r_ireturn X dX3_process_21
  · refine r_iload_n X (j := 1) dX3_process_4 rfl rfl ?_
    refine r_bipush X (v := 16) dX3_process_5 (by decide) ?_
    refine r_icmp_ge X (tgt := 19) dX3_process_7 (by decide) (fun _ => ?_) (fun _ => ?_)
    · refine r_bipush X (v := (-2)) dX3_process_19 (by decide) ?_
      exact r_ireturn X dX3_process_21
    · refine r_iload_n X (j := 2) dX3_process_10 rfl rfl ?_
      refine r_if_lt X (tgt := 19) dX3_process_11 (by decide) (fun _ => ?_) (fun _ => ?_)
      · refine r_bipush X (v := (-2)) dX3_process_19 (by decide) ?_
        exact r_ireturn X dX3_process_21
      · refine r_iload_n X (j := 2) dX3_process_14 rfl rfl ?_
        refine r_iconst X (v := 4) dX3_process_15 (by decide) ?_
        refine r_icmp_le X (tgt := 22) dX3_process_16 (by decide) (fun _ => ?_) (fun _ => ?_)
        · refine r_iconst X (v := 0) dX3_process_22 (by decide) ?_
          refine r_istore_n X (lv' := [(3, .int 0), (0, .ref (α 0)), (1, .int x1), (2, .int x2)]) dX3_process_23 rfl (by decide) rfl ?_
          refine r_iconst X (v := 0) dX3_process_24 (by decide) ?_
          refine r_istore X (lv' := [(4, .int 0), (3, .int 0), (0, .ref (α 0)), (1, .int x1), (2, .int x2)]) dX3_process_25 (by decide) rfl ?_
          refine r_sub (lv' := [(0, .ref (α 0)), (1, .int x1), (2, .int x2), (3, .int 0), (4, .int 0)]) [2, 3, 4, 1, 0] rfl ?_
          exact cl_X3_process_27 l D cI cZ α A hJ X FU x1 x2 0 0 σ
        · refine r_bipush X (v := (-2)) dX3_process_19 (by decide) ?_
          exact r_ireturn X dX3_process_21
set_option maxRecDepth 100000 in
set_option maxHeartbeats 4000000 in
theorem c_X3_takeFrame (l : Launch) (D : va_G) (cI cZ : ClassId) (α : Nat → Nat) (A : Nat → Prop) (hJ : ∀ σ, va_D A ((kwM cI cZ α) σ)) (x1 : Int32) (σ : KS) : Ct l D (tyA cI cZ) (kwM cI cZ α) A yX3_takeFrame cX3_takeFrame 3 (some .int) 1 vI [.ref (α 0), .int x1] σ (m_X3_takeFrame x1 σ) := by
  refine Ct.of (own := RX3) hJ (by decide) rfl (Nat.le_of_ble_eq_true rfl) ?_
  intro p e s m args below meth c X
  refine r_sub (lv' := [(0, .ref (α 0)), (1, .int x1)]) [0, 1] rfl ?_
  unfold m_X3_takeFrame
  refine r_aload_n X (j := 0) dX3_takeFrame_0 rfl rfl ?_
  refine r_iconst X (v := 0) dX3_takeFrame_1 (by decide) ?_
  refine r_callVi X (q0 := 0) (ci := 3) (n := 1) (As := [.int 0]) (st := []) (c_X3_takeBlock l D cI cZ α A hJ 0 σ) ml_X3_59 im_X3_takeBlock se_X3_takeBlock ii_X3 co_X3_takeBlock (by decide +kernel) ⟨Nat.le_of_ble_eq_true rfl, Nat.le_of_ble_eq_true rfl⟩ rfl rfl rfl rfl (Nat.le_of_ble_eq_true rfl) dX3_takeFrame_2 (fun r_2 σ_2 hc_2 => ?_)
  refine r_istore_n X (lv' := [(2, .int r_2), (0, .ref (α 0)), (1, .int x1)]) dX3_takeFrame_5 rfl (by decide) rfl ?_
  refine r_iload_n X (j := 0) dX3_takeFrame_6 rfl rfl ?_
  refine r_if_lt X (tgt := 17) dX3_takeFrame_7 (by decide) (fun _ => ?_) (fun _ => ?_)
  · refine r_iload_n X (j := 0) dX3_takeFrame_17 rfl rfl ?_
    exact r_ireturn X dX3_takeFrame_18
  · refine r_aload_n X (j := 1) dX3_takeFrame_10 rfl rfl ?_
    refine r_get X (ci := 3) (q0 := 0) (v := .ref (α 2)) inX3 rfl rfl 1 (by decide) rfl fl_X3_13 dX3_takeFrame_11 ?_
    refine r_iload_n X (j := 0) dX3_takeFrame_14 rfl rfl ?_
    refine r_iload_n X (j := 2) dX3_takeFrame_15 rfl rfl ?_
    refine r_iast X (q0 := 2) (t0 := 0) (kk := 2) rfl (fun _ => rfl) rfl dX3_takeFrame_16 ?_
    refine r_iload_n X (j := 0) dX3_takeFrame_17 rfl rfl ?_
    exact r_ireturn X dX3_takeFrame_18
set_option maxRecDepth 100000 in
set_option maxHeartbeats 4000000 in
theorem c_X3_unblock (l : Launch) (D : va_G) (cI cZ : ClassId) (α : Nat → Nat) (A : Nat → Prop) (hJ : ∀ σ, va_D A ((kwM cI cZ α) σ)) (x1 : Int32) (σ : KS) : Ct l D (tyA cI cZ) (kwM cI cZ α) A yX3_unblock cX3_unblock 3 (some .int) 1 vI [.ref (α 0), .int x1] σ (m_X3_unblock x1 σ) := by
  refine Ct.of (own := RX3) hJ (by decide) rfl (Nat.le_of_ble_eq_true rfl) ?_
  intro p e s m args below meth c X
  refine r_sub (lv' := [(0, .ref (α 0)), (1, .int x1)]) [0, 1] rfl ?_
  unfold m_X3_unblock
  refine r_iload_n X (j := 1) dX3_unblock_0 rfl rfl ?_
  refine r_if_lt X (tgt := 20) dX3_unblock_1 (by decide) (fun _ => ?_) (fun _ => ?_)
  · refine r_bipush X (v := (-2)) dX3_unblock_20 (by decide) ?_
    exact r_ireturn X dX3_unblock_22
  · refine r_iload_n X (j := 1) dX3_unblock_4 rfl rfl ?_
    refine r_sipush X (v := 128) dX3_unblock_5 (by decide) ?_
    refine r_icmp_ge X (tgt := 20) dX3_unblock_8 (by decide) (fun _ => ?_) (fun _ => ?_)
    · refine r_bipush X (v := (-2)) dX3_unblock_20 (by decide) ?_
      exact r_ireturn X dX3_unblock_22
    · refine r_aload_n X (j := 0) dX3_unblock_11 rfl rfl ?_
      refine r_get X (ci := 3) (q0 := 0) (v := .ref (α 5)) inX3 rfl rfl 4 (by decide) rfl fl_X3_23 dX3_unblock_12 ?_
      refine r_iload_n X (j := 1) dX3_unblock_15 rfl rfl ?_
      refine r_iald X (q0 := 5) (t0 := 0) (kk := 5) rfl rfl dX3_unblock_16 ?_
      refine r_if_ge X (tgt := 23) dX3_unblock_17 (by decide) (fun _ => ?_) (fun _ => ?_)
      · refine r_aload_n X (j := 0) dX3_unblock_23 rfl rfl ?_
        refine r_get X (ci := 3) (q0 := 0) (v := .ref (α 5)) inX3 rfl rfl 4 (by decide) rfl fl_X3_23 dX3_unblock_24 ?_
        refine r_iload_n X (j := 1) dX3_unblock_27 rfl rfl ?_
        refine r_iald X (q0 := 5) (t0 := 0) (kk := 5) rfl rfl dX3_unblock_28 ?_
        refine r_istore_n X (lv' := [(2, .int (rd σ 5 x1)), (0, .ref (α 0)), (1, .int x1)]) dX3_unblock_29 rfl (by decide) rfl ?_
        refine r_aload_n X (j := 1) dX3_unblock_30 rfl rfl ?_
        refine r_get X (ci := 3) (q0 := 0) (v := .ref (α 5)) inX3 rfl rfl 4 (by decide) rfl fl_X3_23 dX3_unblock_31 ?_
        refine r_iload_n X (j := 2) dX3_unblock_34 rfl rfl ?_
        refine r_iconst X (v := (-1)) dX3_unblock_35 (by decide) ?_
        refine r_iast X (q0 := 5) (t0 := 0) (kk := 5) rfl (fun _ => rfl) rfl dX3_unblock_36 ?_
        refine r_aload_n X (j := 1) dX3_unblock_37 rfl rfl ?_
        refine r_iload_n X (j := 2) dX3_unblock_38 rfl rfl ?_
        refine r_iload_n X (j := 0) dX3_unblock_39 rfl rfl ?_
        refine r_callVv X (q0 := 0) (ci := 3) (n := 2) (As := [.int x1, .int (rd σ 5 x1)]) (st := []) (c_X3_giveBlock l D cI cZ α A hJ x1 (rd σ 5 x1) (wr σ 5 x1 (-1))) ml_X3_76 im_X3_giveBlock se_X3_giveBlock ii_X3 co_X3_giveBlock (by decide +kernel) ⟨Nat.le_of_ble_eq_true rfl, Nat.le_of_ble_eq_true rfl⟩ rfl rfl rfl rfl (Nat.le_of_ble_eq_true rfl) dX3_unblock_40 (fun r_40 σ_40 hc_40 => ?_)
        refine r_iload_n X (j := 0) dX3_unblock_43 rfl rfl ?_
        exact r_ireturn X dX3_unblock_44
      · refine r_bipush X (v := (-2)) dX3_unblock_20 (by decide) ?_
        exact r_ireturn X dX3_unblock_22
set_option maxRecDepth 100000 in
set_option maxHeartbeats 4000000 in
theorem c_X3_dropPage (l : Launch) (D : va_G) (cI cZ : ClassId) (α : Nat → Nat) (A : Nat → Prop) (hJ : ∀ σ, va_D A ((kwM cI cZ α) σ)) (x1 : Int32) (σ : KS) : Ct l D (tyA cI cZ) (kwM cI cZ α) A yX3_dropPage cX3_dropPage 4 none 2 vV [.ref (α 0), .int x1] σ (m_X3_dropPage x1 σ) := by
  refine Ct.of (own := RX3) hJ (by decide) rfl (Nat.le_of_ble_eq_true rfl) ?_
  intro p e s m args below meth c X
  refine r_sub (lv' := [(0, .ref (α 0)), (1, .int x1)]) [0, 1] rfl ?_
  unfold m_X3_dropPage
  refine r_aload_n X (j := 0) dX3_dropPage_0 rfl rfl ?_
  refine r_get X (ci := 3) (q0 := 0) (v := .ref (α 7)) inX3 rfl rfl 6 (by decide) rfl fl_X3_29 dX3_dropPage_1 ?_
  refine r_iload_n X (j := 1) dX3_dropPage_4 rfl rfl ?_
  refine r_iald X (q0 := 7) (t0 := 0) (kk := 7) rfl rfl dX3_dropPage_5 ?_
  refine r_iconst X (v := 1) dX3_dropPage_6 (by decide) ?_
  refine r_isub X dX3_dropPage_7 ?_
  refine r_istore_n X (lv' := [(2, .int ((rd σ 7 x1) - 1)), (0, .ref (α 0)), (1, .int x1)]) dX3_dropPage_8 rfl (by decide) rfl ?_
  refine r_aload_n X (j := 1) dX3_dropPage_9 rfl rfl ?_
  refine r_get X (ci := 3) (q0 := 0) (v := .ref (α 11)) inX3 rfl rfl 10 (by decide) rfl fl_X3_41 dX3_dropPage_10 ?_
  refine r_sipush X (v := 256) dX3_dropPage_13 (by decide) ?_
  refine r_iload_n X (j := 2) dX3_dropPage_16 rfl rfl ?_
  refine r_imul X dX3_dropPage_17 ?_
  refine r_iload_n X (j := 0) dX3_dropPage_18 rfl rfl ?_
  refine r_iadd X dX3_dropPage_19 ?_
  refine r_iald X (q0 := 11) (t0 := 0) (kk := 11) rfl rfl dX3_dropPage_20 ?_
  refine r_istore_n X (lv' := [(3, .int (rd σ 11 ((256 * x1) + ((rd σ 7 x1) - 1)))), (2, .int ((rd σ 7 x1) - 1)), (0, .ref (α 0)), (1, .int x1)]) dX3_dropPage_21 rfl (by decide) rfl ?_
  refine r_aload_n X (j := 2) dX3_dropPage_22 rfl rfl ?_
  refine r_iload_n X (j := 0) dX3_dropPage_23 rfl rfl ?_
  refine r_callVi X (q0 := 0) (ci := 3) (n := 1) (As := [.int (rd σ 11 ((256 * x1) + ((rd σ 7 x1) - 1)))]) (st := []) (c_X3_users l D cI cZ α A hJ (rd σ 11 ((256 * x1) + ((rd σ 7 x1) - 1))) σ) ml_X3_104 im_X3_users se_X3_users ii_X3 co_X3_users (by decide +kernel) ⟨Nat.le_of_ble_eq_true rfl, Nat.le_of_ble_eq_true rfl⟩ rfl rfl rfl rfl (Nat.le_of_ble_eq_true rfl) dX3_dropPage_24 (fun r_24 σ_24 hc_24 => ?_)
  refine r_iconst X (v := 1) dX3_dropPage_27 (by decide) ?_
  refine r_icmp_ne X (tgt := 37) dX3_dropPage_28 (by decide) (fun _ => ?_) (fun _ => ?_)
  · refine r_aload_n X (j := 2) dX3_dropPage_31 rfl rfl ?_
    refine r_iload_n X (j := 0) dX3_dropPage_32 rfl rfl ?_
    refine r_iconst X (v := 0) dX3_dropPage_33 (by decide) ?_
    refine r_callVv X (q0 := 0) (ci := 3) (n := 2) (As := [.int (rd σ 11 ((256 * x1) + ((rd σ 7 x1) - 1))), .int 0]) (st := []) (c_X3_giveBlock l D cI cZ α A hJ (rd σ 11 ((256 * x1) + ((rd σ 7 x1) - 1))) 0 σ_24) ml_X3_76 im_X3_giveBlock se_X3_giveBlock ii_X3 co_X3_giveBlock (by decide +kernel) ⟨Nat.le_of_ble_eq_true rfl, Nat.le_of_ble_eq_true rfl⟩ rfl rfl rfl rfl (Nat.le_of_ble_eq_true rfl) dX3_dropPage_34 (fun r_34 σ_34 hc_34 => ?_)
    refine r_aload_n X (j := 2) dX3_dropPage_37 rfl rfl ?_
    refine r_get X (ci := 3) (q0 := 0) (v := .ref (α 7)) inX3 rfl rfl 6 (by decide) rfl fl_X3_29 dX3_dropPage_38 ?_
    refine r_iload_n X (j := 3) dX3_dropPage_41 rfl rfl ?_
    refine r_iload_n X (j := 1) dX3_dropPage_42 rfl rfl ?_
    refine r_iast X (q0 := 7) (t0 := 0) (kk := 7) rfl (fun _ => rfl) rfl dX3_dropPage_43 ?_
    refine r_iload_n X (j := 1) dX3_dropPage_44 rfl rfl ?_
    refine r_bipush X (v := 16) dX3_dropPage_45 (by decide) ?_
    refine r_irem X dX3_dropPage_47 (by decide) ?_
    refine r_if_ne X (tgt := 69) dX3_dropPage_48 (by decide) (fun _ => ?_) (fun _ => ?_)
    · refine r_aload_n X (j := 2) dX3_dropPage_51 rfl rfl ?_
      refine r_aload_n X (j := 2) dX3_dropPage_52 rfl rfl ?_
      refine r_get X (ci := 3) (q0 := 0) (v := .ref (α 12)) inX3 rfl rfl 11 (by decide) rfl fl_X3_44 dX3_dropPage_53 ?_
      refine r_bipush X (v := 16) dX3_dropPage_56 (by decide) ?_
      refine r_iload_n X (j := 3) dX3_dropPage_58 rfl rfl ?_
      refine r_imul X dX3_dropPage_59 ?_
      refine r_iload_n X (j := 1) dX3_dropPage_60 rfl rfl ?_
      refine r_bipush X (v := 16) dX3_dropPage_61 (by decide) ?_
      refine r_idiv X dX3_dropPage_63 (by decide) ?_
      refine r_iadd X dX3_dropPage_64 ?_
      refine r_iald X (q0 := 12) (t0 := 0) (kk := 12) rfl rfl dX3_dropPage_65 ?_
      refine r_callVv X (q0 := 0) (ci := 3) (n := 1) (As := [.int (rd (wr σ_34 7 x1 ((rd σ 7 x1) - 1)) 12 ((16 * x1) + (((rd σ 7 x1) - 1) / 16)))]) (st := []) (c_X3_giveSmall l D cI cZ α A hJ (rd (wr σ_34 7 x1 ((rd σ 7 x1) - 1)) 12 ((16 * x1) + (((rd σ 7 x1) - 1) / 16))) (wr σ_34 7 x1 ((rd σ 7 x1) - 1))) ml_X3_107 im_X3_giveSmall se_X3_giveSmall ii_X3 co_X3_giveSmall (by decide +kernel) ⟨Nat.le_of_ble_eq_true rfl, Nat.le_of_ble_eq_true rfl⟩ rfl rfl rfl rfl (Nat.le_of_ble_eq_true rfl) dX3_dropPage_66 (fun r_66 σ_66 hc_66 => ?_)
      exact r_return X dX3_dropPage_69
    · exact r_return X dX3_dropPage_69
  · refine r_aload_n X (j := 2) dX3_dropPage_37 rfl rfl ?_
    refine r_get X (ci := 3) (q0 := 0) (v := .ref (α 7)) inX3 rfl rfl 6 (by decide) rfl fl_X3_29 dX3_dropPage_38 ?_
    refine r_iload_n X (j := 3) dX3_dropPage_41 rfl rfl ?_
    refine r_iload_n X (j := 1) dX3_dropPage_42 rfl rfl ?_
    refine r_iast X (q0 := 7) (t0 := 0) (kk := 7) rfl (fun _ => rfl) rfl dX3_dropPage_43 ?_
    refine r_iload_n X (j := 1) dX3_dropPage_44 rfl rfl ?_
    refine r_bipush X (v := 16) dX3_dropPage_45 (by decide) ?_
    refine r_irem X dX3_dropPage_47 (by decide) ?_
    refine r_if_ne X (tgt := 69) dX3_dropPage_48 (by decide) (fun _ => ?_) (fun _ => ?_)
    · refine r_aload_n X (j := 2) dX3_dropPage_51 rfl rfl ?_
      refine r_aload_n X (j := 2) dX3_dropPage_52 rfl rfl ?_
      refine r_get X (ci := 3) (q0 := 0) (v := .ref (α 12)) inX3 rfl rfl 11 (by decide) rfl fl_X3_44 dX3_dropPage_53 ?_
      refine r_bipush X (v := 16) dX3_dropPage_56 (by decide) ?_
      refine r_iload_n X (j := 3) dX3_dropPage_58 rfl rfl ?_
      refine r_imul X dX3_dropPage_59 ?_
      refine r_iload_n X (j := 1) dX3_dropPage_60 rfl rfl ?_
      refine r_bipush X (v := 16) dX3_dropPage_61 (by decide) ?_
      refine r_idiv X dX3_dropPage_63 (by decide) ?_
      refine r_iadd X dX3_dropPage_64 ?_
      refine r_iald X (q0 := 12) (t0 := 0) (kk := 12) rfl rfl dX3_dropPage_65 ?_
      refine r_callVv X (q0 := 0) (ci := 3) (n := 1) (As := [.int (rd (wr σ_24 7 x1 ((rd σ 7 x1) - 1)) 12 ((16 * x1) + (((rd σ 7 x1) - 1) / 16)))]) (st := []) (c_X3_giveSmall l D cI cZ α A hJ (rd (wr σ_24 7 x1 ((rd σ 7 x1) - 1)) 12 ((16 * x1) + (((rd σ 7 x1) - 1) / 16))) (wr σ_24 7 x1 ((rd σ 7 x1) - 1))) ml_X3_107 im_X3_giveSmall se_X3_giveSmall ii_X3 co_X3_giveSmall (by decide +kernel) ⟨Nat.le_of_ble_eq_true rfl, Nat.le_of_ble_eq_true rfl⟩ rfl rfl rfl rfl (Nat.le_of_ble_eq_true rfl) dX3_dropPage_66 (fun r_66 σ_66 hc_66 => ?_)
      exact r_return X dX3_dropPage_69
    · exact r_return X dX3_dropPage_69
set_option maxRecDepth 100000 in
set_option maxHeartbeats 4000000 in
theorem c_X3_load (l : Launch) (D : va_G) (cI cZ : ClassId) (α : Nat → Nat) (A : Nat → Prop) (hJ : ∀ σ, va_D A ((kwM cI cZ α) σ)) (x1 x2 : Int32) (σ : KS) : Ct l D (tyA cI cZ) (kwM cI cZ α) A yX3_load cX3_load 3 (some .int) 2 vI [.ref (α 0), .int x1, .int x2] σ (m_X3_load x1 x2 σ) := by
  refine Ct.of (own := RX3) hJ (by decide) rfl (Nat.le_of_ble_eq_true rfl) ?_
  intro p e s m args below meth c X
  refine r_sub (lv' := [(0, .ref (α 0)), (1, .int x1), (2, .int x2)]) [0, 1, 2] rfl ?_
  unfold m_X3_load
  refine r_aload_n X (j := 0) dX3_load_0 rfl rfl ?_
  refine r_iload_n X (j := 1) dX3_load_1 rfl rfl ?_
  refine r_iload_n X (j := 2) dX3_load_2 rfl rfl ?_
  refine r_callVi X (q0 := 0) (ci := 3) (n := 2) (As := [.int x1, .int x2]) (st := []) (c_X3_has l D cI cZ α A hJ x1 x2 σ) ml_X3_118 im_X3_has se_X3_has ii_X3 co_X3_has (by decide +kernel) ⟨Nat.le_of_ble_eq_true rfl, Nat.le_of_ble_eq_true rfl⟩ rfl rfl rfl rfl (Nat.le_of_ble_eq_true rfl) dX3_load_3 (fun r_3 σ_3 hc_3 => ?_)
  refine r_if_eq X (tgt := 40) dX3_load_6 (by decide) (fun _ => ?_) (fun _ => ?_)
  · refine r_iconst X (v := 0) dX3_load_40 (by decide) ?_
    exact r_ireturn X dX3_load_41
  · refine r_aload_n X (j := 0) dX3_load_9 rfl rfl ?_
    refine r_get X (ci := 3) (q0 := 0) (v := .ref (α 4)) inX3 rfl rfl 3 (by decide) rfl fl_X3_20 dX3_load_10 ?_
    refine r_bipush X (v := 64) dX3_load_13 (by decide) ?_
    refine r_aload_n X (j := 0) dX3_load_15 rfl rfl ?_
    refine r_get X (ci := 3) (q0 := 0) (v := .ref (α 11)) inX3 rfl rfl 10 (by decide) rfl fl_X3_41 dX3_load_16 ?_
    refine r_sipush X (v := 256) dX3_load_19 (by decide) ?_
    refine r_iload_n X (j := 1) dX3_load_22 rfl rfl ?_
    refine r_imul X dX3_load_23 ?_
    refine r_iload_n X (j := 2) dX3_load_24 rfl rfl ?_
    refine r_bipush X (v := 64) dX3_load_25 (by decide) ?_
    refine r_idiv X dX3_load_27 (by decide) ?_
    refine r_iadd X dX3_load_28 ?_
    refine r_iald X (q0 := 11) (t0 := 0) (kk := 11) rfl rfl dX3_load_29 ?_
    refine r_imul X dX3_load_30 ?_
    refine r_iload_n X (j := 2) dX3_load_31 rfl rfl ?_
    refine r_bipush X (v := 64) dX3_load_32 (by decide) ?_
    refine r_irem X dX3_load_34 (by decide) ?_
    refine r_iadd X dX3_load_35 ?_
    refine r_iald X (q0 := 4) (t0 := 0) (kk := 4) rfl rfl dX3_load_36 ?_
    refine r_goto X (tgt := 41) dX3_load_37 (by decide) ?_
    exact r_ireturn X dX3_load_41
set_option maxRecDepth 100000 in
set_option maxHeartbeats 4000000 in
theorem cl_X3_store_78 (l : Launch) (D : va_G) (cI cZ : ClassId) (α : Nat → Nat) (A : Nat → Prop) (hJ : ∀ σ, va_D A ((kwM cI cZ α) σ)) {p : Program} {e : Env} {s : State} {m : MethodId} {args : Array Value} {below : List Frame} {meth : Method} {c : Code} (X : CX p s m args meth c cX3_store 8 RX3 D (tyA cI cZ) (kwM cI cZ α) A (some .int)) : ∀ (n : Nat) (x1 : Int32) (x2 : Int32) (x3 : Int32) (x4 : Int32) (x5 : Int32) (x6 : Int32) (x7 : Int32) (σ : KS), Cr p l e (rmd 2) s m args below meth c 8 D (kwM cI cZ α) A vI 78 [(0, .ref (α 0)), (1, .int x1), (2, .int x2), (3, .int x3), (4, .int x4), (5, .int x5), (6, .int x6), (7, .int x7)] [] σ (f_X3_store_78 n x1 x2 x3 x4 x5 x6 x7 σ) := by
  intro n
  induction n with
  | zero => intros; exact r_none
  | succ n ih =>
    intro x1 x2 x3 x4 x5 x6 x7 σ
    rw [f_X3_store_78]
    refine r_iload X (j := 7) dX3_store_78 rfl ?_
    refine r_bipush X (v := 64) dX3_store_80 (by decide) ?_
    refine r_icmp_ge X (tgt := 117) dX3_store_82 (by decide) (fun _ => ?_) (fun _ => ?_)
    · refine r_aload_n X (j := 0) dX3_store_117 rfl rfl ?_
      refine r_dup X dX3_store_118 rfl ?_
      refine r_get X (ci := 3) (q0 := 0) (v := .int (gv σ 1)) inX3 rfl rfl 14 (by decide) rfl fl_X3_122 dX3_store_119 ?_
      refine r_iconst X (v := 1) dX3_store_122 (by decide) ?_
      refine r_iadd X dX3_store_123 ?_
      refine r_put X (ci := 3) (q0 := 0) (j := 1) inX3 rfl tyX3_ok nmX3 rfl 14 (by decide) rfl fl_X3_122 rfl (by decide +kernel) (Nat.le_of_ble_eq_true rfl) dX3_store_124 ?_
      refine r_aload_n X (j := 0) dX3_store_127 rfl rfl ?_
      refine r_get X (ci := 3) (q0 := 0) (v := .ref (α 11)) inX3 rfl rfl 10 (by decide) rfl fl_X3_41 dX3_store_128 ?_
      refine r_iload X (j := 4) dX3_store_131 rfl ?_
      refine r_iload X (j := 6) dX3_store_133 rfl ?_
      refine r_iast X (q0 := 11) (t0 := 0) (kk := 11) rfl (fun _ => rfl) rfl dX3_store_135 ?_
      refine r_iload X (j := 6) dX3_store_136 rfl ?_
      refine r_istore X (lv' := [(5, .int x6), (0, .ref (α 0)), (1, .int x1), (2, .int x2), (3, .int x3), (4, .int x4), (6, .int x6), (7, .int x7)]) dX3_store_138 (by decide) rfl ?_
      refine r_aload_n X (j := 1) dX3_store_140 rfl rfl ?_
      refine r_get X (ci := 3) (q0 := 0) (v := .ref (α 4)) inX3 rfl rfl 3 (by decide) rfl fl_X3_20 dX3_store_141 ?_
      refine r_bipush X (v := 64) dX3_store_144 (by decide) ?_
      refine r_iload X (j := 0) dX3_store_146 rfl ?_
      refine r_imul X dX3_store_148 ?_
      refine r_iload_n X (j := 3) dX3_store_149 rfl rfl ?_
      refine r_bipush X (v := 64) dX3_store_150 (by decide) ?_
      refine r_irem X dX3_store_152 (by decide) ?_
      refine r_iadd X dX3_store_153 ?_
      refine r_iload_n X (j := 4) dX3_store_154 rfl rfl ?_
      refine r_iast X (q0 := 4) (t0 := 0) (kk := 4) rfl (fun _ => rfl) rfl dX3_store_155 ?_
      refine r_iconst X (v := 0) dX3_store_156 (by decide) ?_
      exact r_ireturn X dX3_store_157
    · refine r_aload_n X (j := 0) dX3_store_85 rfl rfl ?_
      refine r_get X (ci := 3) (q0 := 0) (v := .ref (α 4)) inX3 rfl rfl 3 (by decide) rfl fl_X3_20 dX3_store_86 ?_
      refine r_bipush X (v := 64) dX3_store_89 (by decide) ?_
      refine r_iload X (j := 6) dX3_store_91 rfl ?_
      refine r_imul X dX3_store_93 ?_
      refine r_iload X (j := 7) dX3_store_94 rfl ?_
      refine r_iadd X dX3_store_96 ?_
      refine r_aload_n X (j := 0) dX3_store_97 rfl rfl ?_
      refine r_get X (ci := 3) (q0 := 0) (v := .ref (α 4)) inX3 rfl rfl 3 (by decide) rfl fl_X3_20 dX3_store_98 ?_
      refine r_bipush X (v := 64) dX3_store_101 (by decide) ?_
      refine r_iload X (j := 5) dX3_store_103 rfl ?_
      refine r_imul X dX3_store_105 ?_
      refine r_iload X (j := 7) dX3_store_106 rfl ?_
      refine r_iadd X dX3_store_108 ?_
      refine r_iald X (q0 := 4) (t0 := 0) (kk := 4) rfl rfl dX3_store_109 ?_
      refine r_iast X (q0 := 4) (t0 := 0) (kk := 4) rfl (fun _ => rfl) rfl dX3_store_110 ?_
      refine r_iinc X (j := 7) (v := (x7 + 1)) (lv' := [(7, .int (x7 + 1)), (0, .ref (α 0)), (1, .int x1), (2, .int x2), (3, .int x3), (4, .int x4), (5, .int x5), (6, .int x6)]) dX3_store_111 rfl rfl (by decide) rfl ?_
      refine r_goto X (tgt := 78) dX3_store_114 (by decide) ?_
      refine r_sub (lv' := [(0, .ref (α 0)), (1, .int x1), (2, .int x2), (3, .int x3), (4, .int x4), (5, .int x5), (6, .int x6), (7, .int (x7 + 1))]) [1, 2, 3, 4, 5, 6, 7, 0] rfl ?_
      exact ih x1 x2 x3 x4 x5 x6 (x7 + 1) (wr σ 4 ((64 * x6) + x7) (rd σ 4 ((64 * x5) + x7)))
set_option maxRecDepth 100000 in
set_option maxHeartbeats 4000000 in
theorem c_X3_store (l : Launch) (D : va_G) (cI cZ : ClassId) (α : Nat → Nat) (A : Nat → Prop) (hJ : ∀ σ, va_D A ((kwM cI cZ α) σ)) (x1 x2 x3 : Int32) (σ : KS) : Ct l D (tyA cI cZ) (kwM cI cZ α) A yX3_store cX3_store 8 (some .int) 2 vI [.ref (α 0), .int x1, .int x2, .int x3] σ (m_X3_store x1 x2 x3 σ) := by
  refine Ct.of (own := RX3) hJ (by decide) rfl (Nat.le_of_ble_eq_true rfl) ?_
  intro p e s m args below meth c X
  refine r_sub (lv' := [(0, .ref (α 0)), (1, .int x1), (2, .int x2), (3, .int x3)]) [0, 1, 2, 3] rfl ?_
  unfold m_X3_store
  refine r_aload_n X (j := 0) dX3_store_0 rfl rfl ?_
  refine r_iload_n X (j := 1) dX3_store_1 rfl rfl ?_
  refine r_callVi X (q0 := 0) (ci := 3) (n := 1) (As := [.int x1]) (st := []) (c_X3_isLive l D cI cZ α A hJ x1 σ) ml_X3_100 im_X3_isLive se_X3_isLive ii_X3 co_X3_isLive (by decide +kernel) ⟨Nat.le_of_ble_eq_true rfl, Nat.le_of_ble_eq_true rfl⟩ rfl rfl rfl rfl (Nat.le_of_ble_eq_true rfl) dX3_store_2 (fun r_2 σ_2 hc_2 => ?_)
  refine r_if_ne X (tgt := 11) dX3_store_5 (by decide) (fun _ => ?_) (fun _ => ?_)
  · refine r_bipush X (v := (-2)) dX3_store_8 (by decide) ?_
    exact r_ireturn X dX3_store_10
  · refine r_aload_n X (j := 0) dX3_store_11 rfl rfl ?_
    refine r_iload_n X (j := 1) dX3_store_12 rfl rfl ?_
    refine r_iload_n X (j := 2) dX3_store_13 rfl rfl ?_
    refine r_callVi X (q0 := 0) (ci := 3) (n := 2) (As := [.int x1, .int x2]) (st := []) (c_X3_has l D cI cZ α A hJ x1 x2 σ_2) ml_X3_118 im_X3_has se_X3_has ii_X3 co_X3_has (by decide +kernel) ⟨Nat.le_of_ble_eq_true rfl, Nat.le_of_ble_eq_true rfl⟩ rfl rfl rfl rfl (Nat.le_of_ble_eq_true rfl) dX3_store_14 (fun r_14 σ_14 hc_14 => ?_)
    refine r_if_ne X (tgt := 23) dX3_store_17 (by decide) (fun _ => ?_) (fun _ => ?_)
    · refine r_bipush X (v := (-5)) dX3_store_20 (by decide) ?_
      exact r_ireturn X dX3_store_22
    · refine r_sipush X (v := 256) dX3_store_23 (by decide) ?_
      refine r_iload_n X (j := 1) dX3_store_26 rfl rfl ?_
      refine r_imul X dX3_store_27 ?_
      refine r_iload_n X (j := 2) dX3_store_28 rfl rfl ?_
      refine r_bipush X (v := 64) dX3_store_29 (by decide) ?_
      refine r_idiv X dX3_store_31 (by decide) ?_
      refine r_iadd X dX3_store_32 ?_
      refine r_istore X (lv' := [(4, .int ((256 * x1) + (x2 / 64))), (0, .ref (α 0)), (1, .int x1), (2, .int x2), (3, .int x3)]) dX3_store_33 (by decide) rfl ?_
      refine r_aload_n X (j := 1) dX3_store_35 rfl rfl ?_
      refine r_get X (ci := 3) (q0 := 0) (v := .ref (α 11)) inX3 rfl rfl 10 (by decide) rfl fl_X3_41 dX3_store_36 ?_
      refine r_iload X (j := 0) dX3_store_39 rfl ?_
      refine r_iald X (q0 := 11) (t0 := 0) (kk := 11) rfl rfl dX3_store_41 ?_
      refine r_istore X (lv' := [(5, .int (rd σ_14 11 ((256 * x1) + (x2 / 64)))), (4, .int ((256 * x1) + (x2 / 64))), (0, .ref (α 0)), (1, .int x1), (2, .int x2), (3, .int x3)]) dX3_store_42 (by decide) rfl ?_
      refine r_aload_n X (j := 2) dX3_store_44 rfl rfl ?_
      refine r_iload X (j := 0) dX3_store_45 rfl ?_
      refine r_callVi X (q0 := 0) (ci := 3) (n := 1) (As := [.int (rd σ_14 11 ((256 * x1) + (x2 / 64)))]) (st := []) (c_X3_users l D cI cZ α A hJ (rd σ_14 11 ((256 * x1) + (x2 / 64))) σ_14) ml_X3_104 im_X3_users se_X3_users ii_X3 co_X3_users (by decide +kernel) ⟨Nat.le_of_ble_eq_true rfl, Nat.le_of_ble_eq_true rfl⟩ rfl rfl rfl rfl (Nat.le_of_ble_eq_true rfl) dX3_store_47 (fun r_47 σ_47 hc_47 => ?_)
      refine r_iconst X (v := 1) dX3_store_50 (by decide) ?_
      refine r_icmp_le X (tgt := 140) dX3_store_51 (by decide) (fun _ => ?_) (fun _ => ?_)
      · refine r_aload_n X (j := 2) dX3_store_140 rfl rfl ?_
        refine r_get X (ci := 3) (q0 := 0) (v := .ref (α 4)) inX3 rfl rfl 3 (by decide) rfl fl_X3_20 dX3_store_141 ?_
        refine r_bipush X (v := 64) dX3_store_144 (by decide) ?_
        refine r_iload X (j := 0) dX3_store_146 rfl ?_
        refine r_imul X dX3_store_148 ?_
        refine r_iload_n X (j := 4) dX3_store_149 rfl rfl ?_
        refine r_bipush X (v := 64) dX3_store_150 (by decide) ?_
        refine r_irem X dX3_store_152 (by decide) ?_
        refine r_iadd X dX3_store_153 ?_
        refine r_iload_n X (j := 5) dX3_store_154 rfl rfl ?_
        refine r_iast X (q0 := 4) (t0 := 0) (kk := 4) rfl (fun _ => rfl) rfl dX3_store_155 ?_
        refine r_iconst X (v := 0) dX3_store_156 (by decide) ?_
        exact r_ireturn X dX3_store_157
      · refine r_aload_n X (j := 2) dX3_store_54 rfl rfl ?_
        refine r_callVv X (q0 := 0) (ci := 3) (n := 0) (As := []) (st := []) (c_X3_layAside l D cI cZ α A hJ σ_47) ml_X3_87 im_X3_layAside se_X3_layAside ii_X3 co_X3_layAside (by decide +kernel) ⟨Nat.le_of_ble_eq_true rfl, Nat.le_of_ble_eq_true rfl⟩ rfl rfl rfl rfl (Nat.le_of_ble_eq_true rfl) dX3_store_55 (fun r_55 σ_55 hc_55 => ?_)
        refine r_aload_n X (j := 2) dX3_store_58 rfl rfl ?_
        refine r_iconst X (v := 3) dX3_store_59 (by decide) ?_
        refine r_callVi X (q0 := 0) (ci := 3) (n := 1) (As := [.int 3]) (st := []) (c_X3_takeFrame l D cI cZ α A hJ 3 σ_55) ml_X3_70 im_X3_takeFrame se_X3_takeFrame ii_X3 co_X3_takeFrame (by decide +kernel) ⟨Nat.le_of_ble_eq_true rfl, Nat.le_of_ble_eq_true rfl⟩ rfl rfl rfl rfl (Nat.le_of_ble_eq_true rfl) dX3_store_60 (fun r_60 σ_60 hc_60 => ?_)
        refine r_istore X (lv' := [(6, .int r_60), (5, .int (rd σ_14 11 ((256 * x1) + (x2 / 64)))), (4, .int ((256 * x1) + (x2 / 64))), (0, .ref (α 0)), (1, .int x1), (2, .int x2), (3, .int x3)]) dX3_store_63 (by decide) rfl ?_
        refine r_iload X (j := 0) dX3_store_65 rfl ?_
        refine r_if_ge X (tgt := 75) dX3_store_67 (by decide) (fun _ => ?_) (fun _ => ?_)
        · refine r_iconst X (v := 0) dX3_store_75 (by decide) ?_
          refine r_istore X (lv' := [(7, .int 0), (6, .int r_60), (5, .int (rd σ_14 11 ((256 * x1) + (x2 / 64)))), (4, .int ((256 * x1) + (x2 / 64))), (0, .ref (α 0)), (1, .int x1), (2, .int x2), (3, .int x3)]) dX3_store_76 (by decide) rfl ?_
          refine r_sub (lv' := [(0, .ref (α 0)), (1, .int x1), (2, .int x2), (3, .int x3), (4, .int ((256 * x1) + (x2 / 64))), (5, .int (rd σ_14 11 ((256 * x1) + (x2 / 64)))), (6, .int r_60), (7, .int 0)]) [4, 5, 6, 7, 3, 2, 1, 0] rfl ?_
          exact cl_X3_store_78 l D cI cZ α A hJ X FU x1 x2 x3 ((256 * x1) + (x2 / 64)) (rd σ_14 11 ((256 * x1) + (x2 / 64))) r_60 0 σ_60
        · refine r_aload_n X (j := 3) dX3_store_70 rfl rfl ?_
          refine r_callVi X (q0 := 0) (ci := 3) (n := 0) (As := []) (st := []) (c_X3_fail l D cI cZ α A hJ σ_60) ml_X3_93 im_X3_fail se_X3_fail ii_X3 co_X3_fail (by decide +kernel) ⟨Nat.le_of_ble_eq_true rfl, Nat.le_of_ble_eq_true rfl⟩ rfl rfl rfl rfl (Nat.le_of_ble_eq_true rfl) dX3_store_71 (fun r_71 σ_71 hc_71 => ?_)
          exact r_ireturn X dX3_store_74
set_option maxRecDepth 100000 in
set_option maxHeartbeats 4000000 in
theorem cl_X3_takeSmall_4 (l : Launch) (D : va_G) (cI cZ : ClassId) (α : Nat → Nat) (A : Nat → Prop) (hJ : ∀ σ, va_D A ((kwM cI cZ α) σ)) {p : Program} {e : Env} {s : State} {m : MethodId} {args : Array Value} {below : List Frame} {meth : Method} {c : Code} (X : CX p s m args meth c cX3_takeSmall 4 RX3 D (tyA cI cZ) (kwM cI cZ α) A (some .int)) : ∀ (n : Nat) (x1 : Int32) (x2 : Int32) (x3 : Int32) (σ : KS), Cr p l e (rmd 2) s m args below meth c 4 D (kwM cI cZ α) A vI 4 [(0, .ref (α 0)), (1, .int x1), (2, .int x2), (3, .int x3)] [] σ (f_X3_takeSmall_4 n x1 x2 x3 σ) := by
  intro n
  induction n with
  | zero => intros; exact r_none
  | succ n ih =>
    intro x1 x2 x3 σ
    rw [f_X3_takeSmall_4]
    refine r_iload_n X (j := 3) dX3_takeSmall_4 rfl rfl ?_
    refine r_sipush X (v := 128) dX3_takeSmall_5 (by decide) ?_
    refine r_icmp_ge X (tgt := 41) dX3_takeSmall_8 (by decide) (fun _ => ?_) (fun _ => ?_)
    · refine r_iload_n X (j := 2) dX3_takeSmall_41 rfl rfl ?_
      refine r_if_ge X (tgt := 63) dX3_takeSmall_42 (by decide) (fun _ => ?_) (fun _ => ?_)
      · refine r_iload_n X (j := 2) dX3_takeSmall_63 rfl rfl ?_
        refine r_if_lt X (tgt := 74) dX3_takeSmall_64 (by decide) (fun _ => ?_) (fun _ => ?_)
        · refine r_iload_n X (j := 2) dX3_takeSmall_74 rfl rfl ?_
          exact r_ireturn X dX3_takeSmall_75
        · refine r_aload_n X (j := 0) dX3_takeSmall_67 rfl rfl ?_
          refine r_get X (ci := 3) (q0 := 0) (v := .ref (α 3)) inX3 rfl rfl 2 (by decide) rfl fl_X3_17 dX3_takeSmall_68 ?_
          refine r_iload_n X (j := 2) dX3_takeSmall_71 rfl rfl ?_
          refine r_iconst X (v := 1) dX3_takeSmall_72 (by decide) ?_
          refine r_zast X (q0 := 3) (t0 := 1) (kk := 3) rfl (fun _ => rfl) rfl dX3_takeSmall_73 ?_
          refine r_iload_n X (j := 2) dX3_takeSmall_74 rfl rfl ?_
          exact r_ireturn X dX3_takeSmall_75
      · refine r_aload_n X (j := 0) dX3_takeSmall_45 rfl rfl ?_
        refine r_iload_n X (j := 1) dX3_takeSmall_46 rfl rfl ?_
        refine r_callVi X (q0 := 0) (ci := 3) (n := 1) (As := [.int x1]) (st := []) (c_X3_takeFrame l D cI cZ α A hJ x1 σ) ml_X3_70 im_X3_takeFrame se_X3_takeFrame ii_X3 co_X3_takeFrame (by decide +kernel) ⟨Nat.le_of_ble_eq_true rfl, Nat.le_of_ble_eq_true rfl⟩ rfl rfl rfl rfl (Nat.le_of_ble_eq_true rfl) dX3_takeSmall_47 (fun r_47 σ_47 hc_47 => ?_)
        refine r_istore_n X (lv' := [(3, .int r_47), (0, .ref (α 0)), (1, .int x1), (2, .int x2)]) dX3_takeSmall_50 rfl (by decide) rfl ?_
        refine r_iload_n X (j := 0) dX3_takeSmall_51 rfl rfl ?_
        refine r_if_ge X (tgt := 59) dX3_takeSmall_52 (by decide) (fun _ => ?_) (fun _ => ?_)
        · refine r_iconst X (v := 4) dX3_takeSmall_59 (by decide) ?_
          refine r_iload_n X (j := 0) dX3_takeSmall_60 rfl rfl ?_
          refine r_imul X dX3_takeSmall_61 ?_
          refine r_istore_n X (lv' := [(2, .int (4 * r_47)), (3, .int r_47), (0, .ref (α 0)), (1, .int x1)]) dX3_takeSmall_62 rfl (by decide) rfl ?_
          refine r_iload_n X (j := 0) dX3_takeSmall_63 rfl rfl ?_
          refine r_if_lt X (tgt := 74) dX3_takeSmall_64 (by decide) (fun _ => ?_) (fun _ => ?_)
          · refine r_iload_n X (j := 0) dX3_takeSmall_74 rfl rfl ?_
            exact r_ireturn X dX3_takeSmall_75
          · refine r_aload_n X (j := 2) dX3_takeSmall_67 rfl rfl ?_
            refine r_get X (ci := 3) (q0 := 0) (v := .ref (α 3)) inX3 rfl rfl 2 (by decide) rfl fl_X3_17 dX3_takeSmall_68 ?_
            refine r_iload_n X (j := 0) dX3_takeSmall_71 rfl rfl ?_
            refine r_iconst X (v := 1) dX3_takeSmall_72 (by decide) ?_
            refine r_zast X (q0 := 3) (t0 := 1) (kk := 3) rfl (fun _ => rfl) rfl dX3_takeSmall_73 ?_
            refine r_iload_n X (j := 0) dX3_takeSmall_74 rfl rfl ?_
            exact r_ireturn X dX3_takeSmall_75
        · refine r_iconst X (v := (-1)) dX3_takeSmall_55 (by decide) ?_
          refine r_goto X (tgt := 62) dX3_takeSmall_56 (by decide) ?_
          refine r_istore_n X (lv' := [(2, .int (-1)), (3, .int r_47), (0, .ref (α 0)), (1, .int x1)]) dX3_takeSmall_62 rfl (by decide) rfl ?_
          refine r_iload_n X (j := 0) dX3_takeSmall_63 rfl rfl ?_
          refine r_t (by decide) (r_if_lt X (tgt := 74) (k2 := none) dX3_takeSmall_64 (by decide) (fun _ => ?_) (fun _ => r_none))
          refine r_iload_n X (j := 0) dX3_takeSmall_74 rfl rfl ?_
          exact r_ireturn X dX3_takeSmall_75
    · refine r_iload_n X (j := 2) dX3_takeSmall_11 rfl rfl ?_
      refine r_if_ge X (tgt := 41) dX3_takeSmall_12 (by decide) (fun _ => ?_) (fun _ => ?_)
      · refine r_iload_n X (j := 2) dX3_takeSmall_41 rfl rfl ?_
        refine r_if_ge X (tgt := 63) dX3_takeSmall_42 (by decide) (fun _ => ?_) (fun _ => ?_)
        · refine r_iload_n X (j := 2) dX3_takeSmall_63 rfl rfl ?_
          refine r_if_lt X (tgt := 74) dX3_takeSmall_64 (by decide) (fun _ => ?_) (fun _ => ?_)
          · refine r_iload_n X (j := 2) dX3_takeSmall_74 rfl rfl ?_
            exact r_ireturn X dX3_takeSmall_75
          · refine r_aload_n X (j := 0) dX3_takeSmall_67 rfl rfl ?_
            refine r_get X (ci := 3) (q0 := 0) (v := .ref (α 3)) inX3 rfl rfl 2 (by decide) rfl fl_X3_17 dX3_takeSmall_68 ?_
            refine r_iload_n X (j := 2) dX3_takeSmall_71 rfl rfl ?_
            refine r_iconst X (v := 1) dX3_takeSmall_72 (by decide) ?_
            refine r_zast X (q0 := 3) (t0 := 1) (kk := 3) rfl (fun _ => rfl) rfl dX3_takeSmall_73 ?_
            refine r_iload_n X (j := 2) dX3_takeSmall_74 rfl rfl ?_
            exact r_ireturn X dX3_takeSmall_75
        · refine r_aload_n X (j := 0) dX3_takeSmall_45 rfl rfl ?_
          refine r_iload_n X (j := 1) dX3_takeSmall_46 rfl rfl ?_
          refine r_callVi X (q0 := 0) (ci := 3) (n := 1) (As := [.int x1]) (st := []) (c_X3_takeFrame l D cI cZ α A hJ x1 σ) ml_X3_70 im_X3_takeFrame se_X3_takeFrame ii_X3 co_X3_takeFrame (by decide +kernel) ⟨Nat.le_of_ble_eq_true rfl, Nat.le_of_ble_eq_true rfl⟩ rfl rfl rfl rfl (Nat.le_of_ble_eq_true rfl) dX3_takeSmall_47 (fun r_47 σ_47 hc_47 => ?_)
          refine r_istore_n X (lv' := [(3, .int r_47), (0, .ref (α 0)), (1, .int x1), (2, .int x2)]) dX3_takeSmall_50 rfl (by decide) rfl ?_
          refine r_iload_n X (j := 0) dX3_takeSmall_51 rfl rfl ?_
          refine r_if_ge X (tgt := 59) dX3_takeSmall_52 (by decide) (fun _ => ?_) (fun _ => ?_)
          · refine r_iconst X (v := 4) dX3_takeSmall_59 (by decide) ?_
            refine r_iload_n X (j := 0) dX3_takeSmall_60 rfl rfl ?_
            refine r_imul X dX3_takeSmall_61 ?_
            refine r_istore_n X (lv' := [(2, .int (4 * r_47)), (3, .int r_47), (0, .ref (α 0)), (1, .int x1)]) dX3_takeSmall_62 rfl (by decide) rfl ?_
            refine r_iload_n X (j := 0) dX3_takeSmall_63 rfl rfl ?_
            refine r_if_lt X (tgt := 74) dX3_takeSmall_64 (by decide) (fun _ => ?_) (fun _ => ?_)
            · refine r_iload_n X (j := 0) dX3_takeSmall_74 rfl rfl ?_
              exact r_ireturn X dX3_takeSmall_75
            · refine r_aload_n X (j := 2) dX3_takeSmall_67 rfl rfl ?_
              refine r_get X (ci := 3) (q0 := 0) (v := .ref (α 3)) inX3 rfl rfl 2 (by decide) rfl fl_X3_17 dX3_takeSmall_68 ?_
              refine r_iload_n X (j := 0) dX3_takeSmall_71 rfl rfl ?_
              refine r_iconst X (v := 1) dX3_takeSmall_72 (by decide) ?_
              refine r_zast X (q0 := 3) (t0 := 1) (kk := 3) rfl (fun _ => rfl) rfl dX3_takeSmall_73 ?_
              refine r_iload_n X (j := 0) dX3_takeSmall_74 rfl rfl ?_
              exact r_ireturn X dX3_takeSmall_75
          · refine r_iconst X (v := (-1)) dX3_takeSmall_55 (by decide) ?_
            refine r_goto X (tgt := 62) dX3_takeSmall_56 (by decide) ?_
            refine r_istore_n X (lv' := [(2, .int (-1)), (3, .int r_47), (0, .ref (α 0)), (1, .int x1)]) dX3_takeSmall_62 rfl (by decide) rfl ?_
            refine r_iload_n X (j := 0) dX3_takeSmall_63 rfl rfl ?_
            refine r_t (by decide) (r_if_lt X (tgt := 74) (k2 := none) dX3_takeSmall_64 (by decide) (fun _ => ?_) (fun _ => r_none))
            refine r_iload_n X (j := 0) dX3_takeSmall_74 rfl rfl ?_
            exact r_ireturn X dX3_takeSmall_75
      · refine r_aload_n X (j := 0) dX3_takeSmall_15 rfl rfl ?_
        refine r_get X (ci := 3) (q0 := 0) (v := .ref (α 2)) inX3 rfl rfl 1 (by decide) rfl fl_X3_13 dX3_takeSmall_16 ?_
        refine r_iload_n X (j := 3) dX3_takeSmall_19 rfl rfl ?_
        refine r_iald X (q0 := 2) (t0 := 0) (kk := 2) rfl rfl dX3_takeSmall_20 ?_
        refine r_iload_n X (j := 1) dX3_takeSmall_21 rfl rfl ?_
        refine r_icmp_ne X (tgt := 33) dX3_takeSmall_22 (by decide) (fun _ => ?_) (fun _ => ?_)
        · refine r_aload_n X (j := 0) dX3_takeSmall_25 rfl rfl ?_
          refine r_iload_n X (j := 3) dX3_takeSmall_26 rfl rfl ?_
          refine r_callVi X (q0 := 0) (ci := 3) (n := 1) (As := [.int x3]) (st := []) (c_X3_freePlace l D cI cZ α A hJ x3 σ) ml_X3_67 im_X3_freePlace se_X3_freePlace ii_X3 co_X3_freePlace (by decide +kernel) ⟨Nat.le_of_ble_eq_true rfl, Nat.le_of_ble_eq_true rfl⟩ rfl rfl rfl rfl (Nat.le_of_ble_eq_true rfl) dX3_takeSmall_27 (fun r_27 σ_27 hc_27 => ?_)
          refine r_goto X (tgt := 34) dX3_takeSmall_30 (by decide) ?_
          refine r_istore_n X (lv' := [(2, .int r_27), (0, .ref (α 0)), (1, .int x1), (3, .int x3)]) dX3_takeSmall_34 rfl (by decide) rfl ?_
          refine r_iinc X (j := 3) (v := (x3 + 1)) (lv' := [(3, .int (x3 + 1)), (2, .int r_27), (0, .ref (α 0)), (1, .int x1)]) dX3_takeSmall_35 rfl rfl (by decide) rfl ?_
          refine r_goto X (tgt := 4) dX3_takeSmall_38 (by decide) ?_
          refine r_sub (lv' := [(0, .ref (α 0)), (1, .int x1), (2, .int r_27), (3, .int (x3 + 1))]) [2, 3, 1, 0] rfl ?_
          exact ih x1 r_27 (x3 + 1) σ_27
        · refine r_iconst X (v := (-1)) dX3_takeSmall_33 (by decide) ?_
          refine r_istore_n X (lv' := [(2, .int (-1)), (0, .ref (α 0)), (1, .int x1), (3, .int x3)]) dX3_takeSmall_34 rfl (by decide) rfl ?_
          refine r_iinc X (j := 3) (v := (x3 + 1)) (lv' := [(3, .int (x3 + 1)), (2, .int (-1)), (0, .ref (α 0)), (1, .int x1)]) dX3_takeSmall_35 rfl rfl (by decide) rfl ?_
          refine r_goto X (tgt := 4) dX3_takeSmall_38 (by decide) ?_
          refine r_sub (lv' := [(0, .ref (α 0)), (1, .int x1), (2, .int (-1)), (3, .int (x3 + 1))]) [2, 3, 1, 0] rfl ?_
          exact ih x1 (-1) (x3 + 1) σ
set_option maxRecDepth 100000 in
set_option maxHeartbeats 4000000 in
theorem c_X3_takeSmall (l : Launch) (D : va_G) (cI cZ : ClassId) (α : Nat → Nat) (A : Nat → Prop) (hJ : ∀ σ, va_D A ((kwM cI cZ α) σ)) (x1 : Int32) (σ : KS) : Ct l D (tyA cI cZ) (kwM cI cZ α) A yX3_takeSmall cX3_takeSmall 4 (some .int) 2 vI [.ref (α 0), .int x1] σ (m_X3_takeSmall x1 σ) := by
  refine Ct.of (own := RX3) hJ (by decide) rfl (Nat.le_of_ble_eq_true rfl) ?_
  intro p e s m args below meth c X
  refine r_sub (lv' := [(0, .ref (α 0)), (1, .int x1)]) [0, 1] rfl ?_
  unfold m_X3_takeSmall
  refine r_iconst X (v := (-1)) dX3_takeSmall_0 (by decide) ?_
  refine r_istore_n X (lv' := [(2, .int (-1)), (0, .ref (α 0)), (1, .int x1)]) dX3_takeSmall_1 rfl (by decide) rfl ?_
  refine r_iconst X (v := 0) dX3_takeSmall_2 (by decide) ?_
  refine r_istore_n X (lv' := [(3, .int 0), (2, .int (-1)), (0, .ref (α 0)), (1, .int x1)]) dX3_takeSmall_3 rfl (by decide) rfl ?_
  refine r_sub (lv' := [(0, .ref (α 0)), (1, .int x1), (2, .int (-1)), (3, .int 0)]) [2, 3, 1, 0] rfl ?_
  exact cl_X3_takeSmall_4 l D cI cZ α A hJ X FU x1 (-1) 0 σ
set_option maxRecDepth 100000 in
set_option maxHeartbeats 4000000 in
theorem c_X3_vanish (l : Launch) (D : va_G) (cI cZ : ClassId) (α : Nat → Nat) (A : Nat → Prop) (hJ : ∀ σ, va_D A ((kwM cI cZ α) σ)) (x1 : Int32) (σ : KS) : Ct l D (tyA cI cZ) (kwM cI cZ α) A yX3_vanish cX3_vanish 2 none 2 vV [.ref (α 0), .int x1] σ (m_X3_vanish x1 σ) := by
  refine Ct.of (own := RX3) hJ (by decide) rfl (Nat.le_of_ble_eq_true rfl) ?_
  intro p e s m args below meth c X
  refine r_sub (lv' := [(0, .ref (α 0)), (1, .int x1)]) [0, 1] rfl ?_
  unfold m_X3_vanish
  refine r_aload_n X (j := 0) dX3_vanish_0 rfl rfl ?_
  refine r_get X (ci := 3) (q0 := 0) (v := .ref (α 6)) inX3 rfl rfl 5 (by decide) rfl fl_X3_26 dX3_vanish_1 ?_
  refine r_iload_n X (j := 1) dX3_vanish_4 rfl rfl ?_
  refine r_iconst X (v := 0) dX3_vanish_5 (by decide) ?_
  refine r_iast X (q0 := 6) (t0 := 0) (kk := 6) rfl (fun _ => rfl) rfl dX3_vanish_6 ?_
  refine r_aload_n X (j := 0) dX3_vanish_7 rfl rfl ?_
  refine r_aload_n X (j := 0) dX3_vanish_8 rfl rfl ?_
  refine r_get X (ci := 3) (q0 := 0) (v := .ref (α 10)) inX3 rfl rfl 9 (by decide) rfl fl_X3_38 dX3_vanish_9 ?_
  refine r_iload_n X (j := 1) dX3_vanish_12 rfl rfl ?_
  refine r_iald X (q0 := 10) (t0 := 0) (kk := 10) rfl rfl dX3_vanish_13 ?_
  refine r_callVv X (q0 := 0) (ci := 3) (n := 1) (As := [.int (rd (wr σ 6 x1 0) 10 x1)]) (st := []) (c_X3_giveSmall l D cI cZ α A hJ (rd (wr σ 6 x1 0) 10 x1) (wr σ 6 x1 0)) ml_X3_107 im_X3_giveSmall se_X3_giveSmall ii_X3 co_X3_giveSmall (by decide +kernel) ⟨Nat.le_of_ble_eq_true rfl, Nat.le_of_ble_eq_true rfl⟩ rfl rfl rfl rfl (Nat.le_of_ble_eq_true rfl) dX3_vanish_14 (fun r_14 σ_14 hc_14 => ?_)
  exact r_return X dX3_vanish_17
