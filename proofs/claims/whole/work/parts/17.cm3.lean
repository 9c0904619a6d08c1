set_option maxRecDepth 100000 in
set_option maxHeartbeats 4000000 in
theorem cl_X3_exit_81 (l : Launch) (D : va_G) (cI cZ : ClassId) (α : Nat → Nat) (A : Nat → Prop) (hJ : ∀ σ, va_D A ((kwM cI cZ α) σ)) {p : Program} {e : Env} {s : State} {m : MethodId} {args : Array Value} {below : List Frame} {meth : Method} {c : Code} (X : CX p s m args meth c cX3_exit 5 RX3 D (tyA cI cZ) (kwM cI cZ α) A (some .int)) : ∀ (n : Nat) (x1 : Int32) (x2 : Int32) (x3 : Int32) (x4 : Int32) (σ : KS), Cr p l e (rmd 3) s m args below meth c 5 D (kwM cI cZ α) A vI 81 [(0, .ref (α 0)), (1, .int x1), (2, .int x2), (3, .int x3), (4, .int x4)] [] σ (f_X3_exit_81 n x1 x2 x3 x4 σ) := by
  intro n
  induction n with
  | zero => intros; exact r_none
  | succ n ih =>
    intro x1 x2 x3 x4 σ
    rw [f_X3_exit_81]
    refine r_iload X (j := 4) dX3_exit_81 rfl ?_
    refine r_bipush X (v := 16) dX3_exit_83 (by decide) ?_
    refine r_icmp_ge X (tgt := 140) dX3_exit_85 (by decide) (fun _ => ?_) (fun _ => ?_)
    · refine r_aload_n X (j := 0) dX3_exit_140 rfl rfl ?_
      refine r_get X (ci := 3) (q0 := 0) (v := .ref (α 8)) inX3 rfl rfl 7 (by decide) rfl fl_X3_32 dX3_exit_141 ?_
      refine r_iload_n X (j := 1) dX3_exit_144 rfl rfl ?_
      refine r_iald X (q0 := 8) (t0 := 0) (kk := 8) rfl rfl dX3_exit_145 ?_
      refine r_iconst X (v := (-1)) dX3_exit_146 (by decide) ?_
      refine r_icmp_ne X (tgt := 158) dX3_exit_147 (by decide) (fun _ => ?_) (fun _ => ?_)
      · refine r_aload_n X (j := 0) dX3_exit_150 rfl rfl ?_
        refine r_iload_n X (j := 1) dX3_exit_151 rfl rfl ?_
        refine r_callVv X (q0 := 0) (ci := 3) (n := 1) (As := [.int x1]) (st := []) (c_X3_vanish l D cI cZ α A hJ x1 σ) ml_X3_128 im_X3_vanish se_X3_vanish ii_X3 co_X3_vanish (by decide +kernel) ⟨Nat.le_of_ble_eq_true rfl, Nat.le_of_ble_eq_true rfl⟩ rfl rfl rfl rfl (Nat.le_of_ble_eq_true rfl) dX3_exit_152 (fun r_152 σ_152 hc_152 => ?_)
        refine r_goto X (tgt := 172) dX3_exit_155 (by decide) ?_
        refine r_iconst X (v := 0) dX3_exit_172 (by decide) ?_
        exact r_ireturn X dX3_exit_173
      · refine r_aload_n X (j := 0) dX3_exit_158 rfl rfl ?_
        refine r_get X (ci := 3) (q0 := 0) (v := .ref (α 6)) inX3 rfl rfl 5 (by decide) rfl fl_X3_26 dX3_exit_159 ?_
        refine r_iload_n X (j := 1) dX3_exit_162 rfl rfl ?_
        refine r_iconst X (v := 2) dX3_exit_163 (by decide) ?_
        refine r_iast X (q0 := 6) (t0 := 0) (kk := 6) rfl (fun _ => rfl) rfl dX3_exit_164 ?_
        refine r_aload_n X (j := 0) dX3_exit_165 rfl rfl ?_
        refine r_get X (ci := 3) (q0 := 0) (v := .ref (α 9)) inX3 rfl rfl 8 (by decide) rfl fl_X3_35 dX3_exit_166 ?_
        refine r_iload_n X (j := 1) dX3_exit_169 rfl rfl ?_
        refine r_iload_n X (j := 2) dX3_exit_170 rfl rfl ?_
        refine r_iast X (q0 := 9) (t0 := 0) (kk := 9) rfl (fun _ => rfl) rfl dX3_exit_171 ?_
        refine r_iconst X (v := 0) dX3_exit_172 (by decide) ?_
        exact r_ireturn X dX3_exit_173
    · refine r_aload_n X (j := 0) dX3_exit_88 rfl rfl ?_
      refine r_get X (ci := 3) (q0 := 0) (v := .ref (α 6)) inX3 rfl rfl 5 (by decide) rfl fl_X3_26 dX3_exit_89 ?_
      refine r_iload X (j := 4) dX3_exit_92 rfl ?_
      refine r_iald X (q0 := 6) (t0 := 0) (kk := 6) rfl rfl dX3_exit_94 ?_
      refine r_if_eq X (tgt := 134) dX3_exit_95 (by decide) (fun _ => ?_) (fun _ => ?_)
      · refine r_iinc X (j := 4) (v := (x4 + 1)) (lv' := [(4, .int (x4 + 1)), (0, .ref (α 0)), (1, .int x1), (2, .int x2), (3, .int x3)]) dX3_exit_134 rfl rfl (by decide) rfl ?_
        refine r_goto X (tgt := 81) dX3_exit_137 (by decide) ?_
        refine r_sub (lv' := [(0, .ref (α 0)), (1, .int x1), (2, .int x2), (3, .int x3), (4, .int (x4 + 1))]) [1, 2, 3, 4, 0] rfl ?_
        exact ih x1 x2 x3 (x4 + 1) σ
      · refine r_aload_n X (j := 0) dX3_exit_98 rfl rfl ?_
        refine r_get X (ci := 3) (q0 := 0) (v := .ref (α 8)) inX3 rfl rfl 7 (by decide) rfl fl_X3_32 dX3_exit_99 ?_
        refine r_iload X (j := 4) dX3_exit_102 rfl ?_
        refine r_iald X (q0 := 8) (t0 := 0) (kk := 8) rfl rfl dX3_exit_104 ?_
        refine r_iload_n X (j := 1) dX3_exit_105 rfl rfl ?_
        refine r_icmp_ne X (tgt := 134) dX3_exit_106 (by decide) (fun _ => ?_) (fun _ => ?_)
        · refine r_aload_n X (j := 0) dX3_exit_109 rfl rfl ?_
          refine r_get X (ci := 3) (q0 := 0) (v := .ref (α 6)) inX3 rfl rfl 5 (by decide) rfl fl_X3_26 dX3_exit_110 ?_
          refine r_iload X (j := 4) dX3_exit_113 rfl ?_
          refine r_iald X (q0 := 6) (t0 := 0) (kk := 6) rfl rfl dX3_exit_115 ?_
          refine r_iconst X (v := 2) dX3_exit_116 (by decide) ?_
          refine r_icmp_ne X (tgt := 126) dX3_exit_117 (by decide) (fun _ => ?_) (fun _ => ?_)
          · refine r_aload_n X (j := 0) dX3_exit_120 rfl rfl ?_
            refine r_iload X (j := 4) dX3_exit_121 rfl ?_
            refine r_callVv X (q0 := 0) (ci := 3) (n := 1) (As := [.int x4]) (st := []) (c_X3_vanish l D cI cZ α A hJ x4 σ) ml_X3_128 im_X3_vanish se_X3_vanish ii_X3 co_X3_vanish (by decide +kernel) ⟨Nat.le_of_ble_eq_true rfl, Nat.le_of_ble_eq_true rfl⟩ rfl rfl rfl rfl (Nat.le_of_ble_eq_true rfl) dX3_exit_123 (fun r_123 σ_123 hc_123 => ?_)
            refine r_aload_n X (j := 0) dX3_exit_126 rfl rfl ?_
            refine r_get X (ci := 3) (q0 := 0) (v := .ref (α 8)) inX3 rfl rfl 7 (by decide) rfl fl_X3_32 dX3_exit_127 ?_
            refine r_iload X (j := 4) dX3_exit_130 rfl ?_
            refine r_iconst X (v := (-1)) dX3_exit_132 (by decide) ?_
            refine r_iast X (q0 := 8) (t0 := 0) (kk := 8) rfl (fun _ => rfl) rfl dX3_exit_133 ?_
            refine r_iinc X (j := 4) (v := (x4 + 1)) (lv' := [(4, .int (x4 + 1)), (0, .ref (α 0)), (1, .int x1), (2, .int x2), (3, .int x3)]) dX3_exit_134 rfl rfl (by decide) rfl ?_
            refine r_goto X (tgt := 81) dX3_exit_137 (by decide) ?_
            refine r_sub (lv' := [(0, .ref (α 0)), (1, .int x1), (2, .int x2), (3, .int x3), (4, .int (x4 + 1))]) [1, 2, 3, 4, 0] rfl ?_
            exact ih x1 x2 x3 (x4 + 1) (wr σ_123 8 x4 (-1))
          · refine r_aload_n X (j := 0) dX3_exit_126 rfl rfl ?_
            refine r_get X (ci := 3) (q0 := 0) (v := .ref (α 8)) inX3 rfl rfl 7 (by decide) rfl fl_X3_32 dX3_exit_127 ?_
            refine r_iload X (j := 4) dX3_exit_130 rfl ?_
            refine r_iconst X (v := (-1)) dX3_exit_132 (by decide) ?_
            refine r_iast X (q0 := 8) (t0 := 0) (kk := 8) rfl (fun _ => rfl) rfl dX3_exit_133 ?_
            refine r_iinc X (j := 4) (v := (x4 + 1)) (lv' := [(4, .int (x4 + 1)), (0, .ref (α 0)), (1, .int x1), (2, .int x2), (3, .int x3)]) dX3_exit_134 rfl rfl (by decide) rfl ?_
            refine r_goto X (tgt := 81) dX3_exit_137 (by decide) ?_
            refine r_sub (lv' := [(0, .ref (α 0)), (1, .int x1), (2, .int x2), (3, .int x3), (4, .int (x4 + 1))]) [1, 2, 3, 4, 0] rfl ?_
            exact ih x1 x2 x3 (x4 + 1) (wr σ 8 x4 (-1))
        · refine r_iinc X (j := 4) (v := (x4 + 1)) (lv' := [(4, .int (x4 + 1)), (0, .ref (α 0)), (1, .int x1), (2, .int x2), (3, .int x3)]) dX3_exit_134 rfl rfl (by decide) rfl ?_
          refine r_goto X (tgt := 81) dX3_exit_137 (by decide) ?_
          refine r_sub (lv' := [(0, .ref (α 0)), (1, .int x1), (2, .int x2), (3, .int x3), (4, .int (x4 + 1))]) [1, 2, 3, 4, 0] rfl ?_
          exact ih x1 x2 x3 (x4 + 1) σ
set_option maxRecDepth 100000 in
set_option maxHeartbeats 4000000 in
theorem cl_X3_exit_61 (l : Launch) (D : va_G) (cI cZ : ClassId) (α : Nat → Nat) (A : Nat → Prop) (hJ : ∀ σ, va_D A ((kwM cI cZ α) σ)) {p : Program} {e : Env} {s : State} {m : MethodId} {args : Array Value} {below : List Frame} {meth : Method} {c : Code} (X : CX p s m args meth c cX3_exit 5 RX3 D (tyA cI cZ) (kwM cI cZ α) A (some .int)) : ∀ (n : Nat) (x1 : Int32) (x2 : Int32) (x3 : Int32) (x4 : Int32) (σ : KS), Cr p l e (rmd 3) s m args below meth c 5 D (kwM cI cZ α) A vI 61 [(0, .ref (α 0)), (1, .int x1), (2, .int x2), (3, .int x3), (4, .int x4)] [] σ (f_X3_exit_61 n x1 x2 x3 x4 σ) := by
  intro n
  induction n with
  | zero => intros; exact r_none
  | succ n ih =>
    intro x1 x2 x3 x4 σ
    rw [f_X3_exit_61]
    refine r_aload_n X (j := 0) dX3_exit_61 rfl rfl ?_
    refine r_get X (ci := 3) (q0 := 0) (v := .ref (α 7)) inX3 rfl rfl 6 (by decide) rfl fl_X3_29 dX3_exit_62 ?_
    refine r_iload_n X (j := 1) dX3_exit_65 rfl rfl ?_
    refine r_iald X (q0 := 7) (t0 := 0) (kk := 7) rfl rfl dX3_exit_66 ?_
    refine r_if_le X (tgt := 78) dX3_exit_67 (by decide) (fun _ => ?_) (fun _ => ?_)
    · refine r_iconst X (v := 0) dX3_exit_78 (by decide) ?_
      refine r_istore X (lv' := [(4, .int 0), (0, .ref (α 0)), (1, .int x1), (2, .int x2), (3, .int x3)]) dX3_exit_79 (by decide) rfl ?_
      refine r_sub (lv' := [(0, .ref (α 0)), (1, .int x1), (2, .int x2), (3, .int x3), (4, .int 0)]) [1, 2, 3, 4, 0] rfl ?_
      exact cl_X3_exit_81 l D cI cZ α A hJ X FU x1 x2 x3 0 σ
    · refine r_aload_n X (j := 0) dX3_exit_70 rfl rfl ?_
      refine r_iload_n X (j := 1) dX3_exit_71 rfl rfl ?_
      refine r_callVv X (q0 := 0) (ci := 3) (n := 1) (As := [.int x1]) (st := []) (c_X3_dropPage l D cI cZ α A hJ x1 σ) ml_X3_115 im_X3_dropPage se_X3_dropPage ii_X3 co_X3_dropPage (by decide +kernel) ⟨Nat.le_of_ble_eq_true rfl, Nat.le_of_ble_eq_true rfl⟩ rfl rfl rfl rfl (Nat.le_of_ble_eq_true rfl) dX3_exit_72 (fun r_72 σ_72 hc_72 => ?_)
      refine r_goto X (tgt := 61) dX3_exit_75 (by decide) ?_
      refine r_sub (lv' := [(0, .ref (α 0)), (1, .int x1), (2, .int x2), (3, .int x3), (4, .int x4)]) [0, 1, 2, 3, 4] rfl ?_
      exact ih x1 x2 x3 x4 σ_72
set_option maxRecDepth 100000 in
set_option maxHeartbeats 4000000 in
theorem cl_X3_exit_30 (l : Launch) (D : va_G) (cI cZ : ClassId) (α : Nat → Nat) (A : Nat → Prop) (hJ : ∀ σ, va_D A ((kwM cI cZ α) σ)) {p : Program} {e : Env} {s : State} {m : MethodId} {args : Array Value} {below : List Frame} {meth : Method} {c : Code} (X : CX p s m args meth c cX3_exit 5 RX3 D (tyA cI cZ) (kwM cI cZ α) A (some .int)) : ∀ (n : Nat) (x1 : Int32) (x2 : Int32) (x3 : Int32) (x4 : Int32) (σ : KS), Cr p l e (rmd 3) s m args below meth c 5 D (kwM cI cZ α) A vI 30 [(0, .ref (α 0)), (1, .int x1), (2, .int x2), (3, .int x3), (4, .int x4)] [] σ (f_X3_exit_30 n x1 x2 x3 x4 σ) := by
  intro n
  induction n with
  | zero => intros; exact r_none
  | succ n ih =>
    intro x1 x2 x3 x4 σ
    rw [f_X3_exit_30]
    refine r_iload X (j := 4) dX3_exit_30 rfl ?_
    refine r_aload_n X (j := 0) dX3_exit_32 rfl rfl ?_
    refine r_get X (ci := 3) (q0 := 0) (v := .int (gv σ 0)) inX3 rfl rfl 13 (by decide) rfl fl_X3_80 dX3_exit_33 ?_
    refine r_icmp_ge X (tgt := 61) dX3_exit_36 (by decide) (fun _ => ?_) (fun _ => ?_)
    · refine r_sub (lv' := [(0, .ref (α 0)), (1, .int x1), (2, .int x2), (3, .int x3), (4, .int x4)]) [0, 1, 2, 3, 4] rfl ?_
      exact cl_X3_exit_61 l D cI cZ α A hJ X FU x1 x2 x3 x4 σ
    · refine r_aload_n X (j := 0) dX3_exit_39 rfl rfl ?_
      refine r_get X (ci := 3) (q0 := 0) (v := .ref (α 13)) inX3 rfl rfl 12 (by decide) rfl fl_X3_47 dX3_exit_40 ?_
      refine r_iload X (j := 4) dX3_exit_43 rfl ?_
      refine r_aload_n X (j := 0) dX3_exit_45 rfl rfl ?_
      refine r_get X (ci := 3) (q0 := 0) (v := .ref (α 13)) inX3 rfl rfl 12 (by decide) rfl fl_X3_47 dX3_exit_46 ?_
      refine r_iload X (j := 4) dX3_exit_49 rfl ?_
      refine r_iconst X (v := 1) dX3_exit_51 (by decide) ?_
      refine r_iadd X dX3_exit_52 ?_
      refine r_iald X (q0 := 13) (t0 := 0) (kk := 13) rfl rfl dX3_exit_53 ?_
      refine r_iast X (q0 := 13) (t0 := 0) (kk := 13) rfl (fun _ => rfl) rfl dX3_exit_54 ?_
      refine r_iinc X (j := 4) (v := (x4 + 1)) (lv' := [(4, .int (x4 + 1)), (0, .ref (α 0)), (1, .int x1), (2, .int x2), (3, .int x3)]) dX3_exit_55 rfl rfl (by decide) rfl ?_
      refine r_goto X (tgt := 30) dX3_exit_58 (by decide) ?_
      refine r_sub (lv' := [(0, .ref (α 0)), (1, .int x1), (2, .int x2), (3, .int x3), (4, .int (x4 + 1))]) [1, 2, 3, 4, 0] rfl ?_
      exact ih x1 x2 x3 (x4 + 1) (wr σ 13 x4 (rd σ 13 (x4 + 1)))
set_option maxRecDepth 100000 in
set_option maxHeartbeats 4000000 in
theorem c_X3_exit (l : Launch) (D : va_G) (cI cZ : ClassId) (α : Nat → Nat) (A : Nat → Prop) (hJ : ∀ σ, va_D A ((kwM cI cZ α) σ)) (x1 x2 : Int32) (σ : KS) : Ct l D (tyA cI cZ) (kwM cI cZ α) A yX3_exit cX3_exit 5 (some .int) 3 vI [.ref (α 0), .int x1, .int x2] σ (m_X3_exit x1 x2 σ) := by
  refine Ct.of (own := RX3) hJ (by decide) rfl (Nat.le_of_ble_eq_true rfl) ?_
  intro p e s m args below meth c X
  refine r_sub (lv' := [(0, .ref (α 0)), (1, .int x1), (2, .int x2)]) [0, 1, 2] rfl ?_
  unfold m_X3_exit
  refine r_aload_n X (j := 0) dX3_exit_0 rfl rfl ?_
  refine r_iload_n X (j := 1) dX3_exit_1 rfl rfl ?_
  refine r_callVi X (q0 := 0) (ci := 3) (n := 1) (As := [.int x1]) (st := []) (c_X3_isLive l D cI cZ α A hJ x1 σ) ml_X3_100 im_X3_isLive se_X3_isLive ii_X3 co_X3_isLive (by decide +kernel) ⟨Nat.le_of_ble_eq_true rfl, Nat.le_of_ble_eq_true rfl⟩ rfl rfl rfl rfl (Nat.le_of_ble_eq_true rfl) dX3_exit_2 (fun r_2 σ_2 hc_2 => ?_)
  refine r_if_ne X (tgt := 11) dX3_exit_5 (by decide) (fun _ => ?_) (fun _ => ?_)
  · refine r_bipush X (v := (-2)) dX3_exit_8 (by decide) ?_
    exact r_ireturn X dX3_exit_10
  · refine r_aload_n X (j := 0) dX3_exit_11 rfl rfl ?_
    refine r_iload_n X (j := 1) dX3_exit_12 rfl rfl ?_
    refine r_callVi X (q0 := 0) (ci := 3) (n := 1) (As := [.int x1]) (st := []) (c_X3_placeInRow l D cI cZ α A hJ x1 σ_2) ml_X3_125 im_X3_placeInRow se_X3_placeInRow ii_X3 co_X3_placeInRow (by decide +kernel) ⟨Nat.le_of_ble_eq_true rfl, Nat.le_of_ble_eq_true rfl⟩ rfl rfl rfl rfl (Nat.le_of_ble_eq_true rfl) dX3_exit_13 (fun r_13 σ_13 hc_13 => ?_)
    refine r_istore_n X (lv' := [(3, .int r_13), (0, .ref (α 0)), (1, .int x1), (2, .int x2)]) dX3_exit_16 rfl (by decide) rfl ?_
    refine r_aload_n X (j := 1) dX3_exit_17 rfl rfl ?_
    refine r_dup X dX3_exit_18 rfl ?_
    refine r_get X (ci := 3) (q0 := 0) (v := .int (gv σ_13 0)) inX3 rfl rfl 13 (by decide) rfl fl_X3_80 dX3_exit_19 ?_
    refine r_iconst X (v := 1) dX3_exit_22 (by decide) ?_
    refine r_isub X dX3_exit_23 ?_
    refine r_put X (ci := 3) (q0 := 0) (j := 0) inX3 rfl tyX3_ok nmX3 rfl 13 (by decide) rfl fl_X3_80 rfl (by decide +kernel) (Nat.le_of_ble_eq_true rfl) dX3_exit_24 ?_
    refine r_iload_n X (j := 0) dX3_exit_27 rfl rfl ?_
    refine r_istore X (lv' := [(4, .int r_13), (3, .int r_13), (0, .ref (α 0)), (1, .int x1), (2, .int x2)]) dX3_exit_28 (by decide) rfl ?_
    refine r_sub (lv' := [(0, .ref (α 0)), (1, .int x1), (2, .int x2), (3, .int r_13), (4, .int r_13)]) [2, 3, 4, 1, 0] rfl ?_
    exact cl_X3_exit_30 l D cI cZ α A hJ X FU x1 x2 r_13 r_13 (sv σ_13 0 ((gv σ_13 0) - 1))
set_option maxRecDepth 100000 in
set_option maxHeartbeats 4000000 in
theorem cl_X3_fork_131 (l : Launch) (D : va_G) (cI cZ : ClassId) (α : Nat → Nat) (A : Nat → Prop) (hJ : ∀ σ, va_D A ((kwM cI cZ α) σ)) {p : Program} {e : Env} {s : State} {m : MethodId} {args : Array Value} {below : List Frame} {meth : Method} {c : Code} (X : CX p s m args meth c cX3_fork 6 RX3 D (tyA cI cZ) (kwM cI cZ α) A (some .int)) : ∀ (n : Nat) (x1 : Int32) (x2 : Int32) (x3 : Int32) (x4 : Int32) (x5 : Int32) (σ : KS), Cr p l e (rmd 3) s m args below meth c 6 D (kwM cI cZ α) A vI 131 [(0, .ref (α 0)), (1, .int x1), (2, .int x2), (3, .int x3), (4, .int x4), (5, .int x5)] [] σ (f_X3_fork_131 n x1 x2 x3 x4 x5 σ) := by
  intro n
  induction n with
  | zero => intros; exact r_none
  | succ n ih =>
    intro x1 x2 x3 x4 x5 σ
    rw [f_X3_fork_131]
    refine r_iload X (j := 5) dX3_fork_131 rfl ?_
    refine r_aload_n X (j := 0) dX3_fork_133 rfl rfl ?_
    refine r_get X (ci := 3) (q0 := 0) (v := .ref (α 7)) inX3 rfl rfl 6 (by decide) rfl fl_X3_29 dX3_fork_134 ?_
    refine r_iload_n X (j := 2) dX3_fork_137 rfl rfl ?_
    refine r_iald X (q0 := 7) (t0 := 0) (kk := 7) rfl rfl dX3_fork_138 ?_
    refine r_icmp_ge X (tgt := 174) dX3_fork_139 (by decide) (fun _ => ?_) (fun _ => ?_)
    · refine r_iload_n X (j := 2) dX3_fork_174 rfl rfl ?_
      exact r_ireturn X dX3_fork_175
    · refine r_aload_n X (j := 0) dX3_fork_142 rfl rfl ?_
      refine r_get X (ci := 3) (q0 := 0) (v := .ref (α 11)) inX3 rfl rfl 10 (by decide) rfl fl_X3_41 dX3_fork_143 ?_
      refine r_sipush X (v := 256) dX3_fork_146 (by decide) ?_
      refine r_iload_n X (j := 2) dX3_fork_149 rfl rfl ?_
      refine r_imul X dX3_fork_150 ?_
      refine r_iload X (j := 5) dX3_fork_151 rfl ?_
      refine r_iadd X dX3_fork_153 ?_
      refine r_aload_n X (j := 0) dX3_fork_154 rfl rfl ?_
      refine r_get X (ci := 3) (q0 := 0) (v := .ref (α 11)) inX3 rfl rfl 10 (by decide) rfl fl_X3_41 dX3_fork_155 ?_
      refine r_sipush X (v := 256) dX3_fork_158 (by decide) ?_
      refine r_iload_n X (j := 1) dX3_fork_161 rfl rfl ?_
      refine r_imul X dX3_fork_162 ?_
      refine r_iload X (j := 5) dX3_fork_163 rfl ?_
      refine r_iadd X dX3_fork_165 ?_
      refine r_iald X (q0 := 11) (t0 := 0) (kk := 11) rfl rfl dX3_fork_166 ?_
      refine r_iast X (q0 := 11) (t0 := 0) (kk := 11) rfl (fun _ => rfl) rfl dX3_fork_167 ?_
      refine r_iinc X (j := 5) (v := (x5 + 1)) (lv' := [(5, .int (x5 + 1)), (0, .ref (α 0)), (1, .int x1), (2, .int x2), (3, .int x3), (4, .int x4)]) dX3_fork_168 rfl rfl (by decide) rfl ?_
      refine r_goto X (tgt := 131) dX3_fork_171 (by decide) ?_
      refine r_sub (lv' := [(0, .ref (α 0)), (1, .int x1), (2, .int x2), (3, .int x3), (4, .int x4), (5, .int (x5 + 1))]) [1, 2, 3, 4, 5, 0] rfl ?_
      exact ih x1 x2 x3 x4 (x5 + 1) (wr σ 11 ((256 * x2) + x5) (rd σ 11 ((256 * x1) + x5)))
set_option maxRecDepth 100000 in
set_option maxHeartbeats 4000000 in
theorem cl_X3_fork_59 (l : Launch) (D : va_G) (cI cZ : ClassId) (α : Nat → Nat) (A : Nat → Prop) (hJ : ∀ σ, va_D A ((kwM cI cZ α) σ)) {p : Program} {e : Env} {s : State} {m : MethodId} {args : Array Value} {below : List Frame} {meth : Method} {c : Code} (X : CX p s m args meth c cX3_fork 6 RX3 D (tyA cI cZ) (kwM cI cZ α) A (some .int)) : ∀ (n : Nat) (x1 : Int32) (x2 : Int32) (x3 : Int32) (x4 : Int32) (x5 : Int32) (σ : KS), Cr p l e (rmd 3) s m args below meth c 6 D (kwM cI cZ α) A vI 59 [(0, .ref (α 0)), (1, .int x1), (2, .int x2), (3, .int x3), (4, .int x4), (5, .int x5)] [] σ (f_X3_fork_59 n x1 x2 x3 x4 x5 σ) := by
  intro n
  induction n with
  | zero => intros; exact r_none
  | succ n ih =>
    intro x1 x2 x3 x4 x5 σ
    rw [f_X3_fork_59]
    refine r_iload X (j := 5) dX3_fork_59 rfl ?_
    refine r_iload X (j := 4) dX3_fork_61 rfl ?_
    refine r_icmp_ge X (tgt := 109) dX3_fork_63 (by decide) (fun _ => ?_) (fun _ => ?_)
    · refine r_aload_n X (j := 0) dX3_fork_109 rfl rfl ?_
      refine r_iload_n X (j := 2) dX3_fork_110 rfl rfl ?_
      refine r_iload_n X (j := 3) dX3_fork_111 rfl rfl ?_
      refine r_iload_n X (j := 1) dX3_fork_112 rfl rfl ?_
      refine r_callVv X (q0 := 0) (ci := 3) (n := 3) (As := [.int x2, .int x3, .int x1]) (st := []) (c_X3_begin l D cI cZ α A hJ x2 x3 x1 σ) ml_X3_96 im_X3_begin se_X3_begin ii_X3 co_X3_begin (by decide +kernel) ⟨Nat.le_of_ble_eq_true rfl, Nat.le_of_ble_eq_true rfl⟩ rfl rfl rfl rfl (Nat.le_of_ble_eq_true rfl) dX3_fork_113 (fun r_113 σ_113 hc_113 => ?_)
      refine r_aload_n X (j := 0) dX3_fork_116 rfl rfl ?_
      refine r_get X (ci := 3) (q0 := 0) (v := .ref (α 7)) inX3 rfl rfl 6 (by decide) rfl fl_X3_29 dX3_fork_117 ?_
      refine r_iload_n X (j := 2) dX3_fork_120 rfl rfl ?_
      refine r_aload_n X (j := 0) dX3_fork_121 rfl rfl ?_
      refine r_get X (ci := 3) (q0 := 0) (v := .ref (α 7)) inX3 rfl rfl 6 (by decide) rfl fl_X3_29 dX3_fork_122 ?_
      refine r_iload_n X (j := 1) dX3_fork_125 rfl rfl ?_
      refine r_iald X (q0 := 7) (t0 := 0) (kk := 7) rfl rfl dX3_fork_126 ?_
      refine r_iast X (q0 := 7) (t0 := 0) (kk := 7) rfl (fun _ => rfl) rfl dX3_fork_127 ?_
      refine r_iconst X (v := 0) dX3_fork_128 (by decide) ?_
      refine r_istore X (lv' := [(5, .int 0), (0, .ref (α 0)), (1, .int x1), (2, .int x2), (3, .int x3), (4, .int x4)]) dX3_fork_129 (by decide) rfl ?_
      refine r_sub (lv' := [(0, .ref (α 0)), (1, .int x1), (2, .int x2), (3, .int x3), (4, .int x4), (5, .int 0)]) [1, 2, 3, 4, 5, 0] rfl ?_
      exact cl_X3_fork_131 l D cI cZ α A hJ X FU x1 x2 x3 x4 0 (wr σ_113 7 x2 (rd σ_113 7 x1))
    · refine r_aload_n X (j := 0) dX3_fork_66 rfl rfl ?_
      refine r_get X (ci := 3) (q0 := 0) (v := .ref (α 12)) inX3 rfl rfl 11 (by decide) rfl fl_X3_44 dX3_fork_67 ?_
      refine r_bipush X (v := 16) dX3_fork_70 (by decide) ?_
      refine r_iload_n X (j := 2) dX3_fork_72 rfl rfl ?_
      refine r_imul X dX3_fork_73 ?_
      refine r_iload X (j := 5) dX3_fork_74 rfl ?_
      refine r_iadd X dX3_fork_76 ?_
      refine r_aload_n X (j := 0) dX3_fork_77 rfl rfl ?_
      refine r_iconst X (v := 2) dX3_fork_78 (by decide) ?_
      refine r_callVi X (q0 := 0) (ci := 3) (n := 1) (As := [.int 2]) (st := [.int ((16 * x2) + x5), .ref (α 12)]) (c_X3_takeSmall l D cI cZ α A hJ 2 σ) ml_X3_90 im_X3_takeSmall se_X3_takeSmall ii_X3 co_X3_takeSmall (by decide +kernel) ⟨Nat.le_of_ble_eq_true rfl, Nat.le_of_ble_eq_true rfl⟩ rfl rfl rfl rfl (Nat.le_of_ble_eq_true rfl) dX3_fork_79 (fun r_79 σ_79 hc_79 => ?_)
      refine r_iast X (q0 := 12) (t0 := 0) (kk := 12) rfl (fun _ => rfl) rfl dX3_fork_82 ?_
      refine r_aload_n X (j := 0) dX3_fork_83 rfl rfl ?_
      refine r_get X (ci := 3) (q0 := 0) (v := .ref (α 12)) inX3 rfl rfl 11 (by decide) rfl fl_X3_44 dX3_fork_84 ?_
      refine r_bipush X (v := 16) dX3_fork_87 (by decide) ?_
      refine r_iload_n X (j := 2) dX3_fork_89 rfl rfl ?_
      refine r_imul X dX3_fork_90 ?_
      refine r_iload X (j := 5) dX3_fork_91 rfl ?_
      refine r_iadd X dX3_fork_93 ?_
      refine r_iald X (q0 := 12) (t0 := 0) (kk := 12) rfl rfl dX3_fork_94 ?_
      refine r_if_ge X (tgt := 103) dX3_fork_95 (by decide) (fun _ => ?_) (fun _ => ?_)
      · refine r_iinc X (j := 5) (v := (x5 + 1)) (lv' := [(5, .int (x5 + 1)), (0, .ref (α 0)), (1, .int x1), (2, .int x2), (3, .int x3), (4, .int x4)]) dX3_fork_103 rfl rfl (by decide) rfl ?_
        refine r_goto X (tgt := 59) dX3_fork_106 (by decide) ?_
        refine r_sub (lv' := [(0, .ref (α 0)), (1, .int x1), (2, .int x2), (3, .int x3), (4, .int x4), (5, .int (x5 + 1))]) [1, 2, 3, 4, 5, 0] rfl ?_
        exact ih x1 x2 x3 x4 (x5 + 1) (wr σ_79 12 ((16 * x2) + x5) r_79)
      · refine r_aload_n X (j := 0) dX3_fork_98 rfl rfl ?_
        refine r_callVi X (q0 := 0) (ci := 3) (n := 0) (As := []) (st := []) (c_X3_fail l D cI cZ α A hJ (wr σ_79 12 ((16 * x2) + x5) r_79)) ml_X3_93 im_X3_fail se_X3_fail ii_X3 co_X3_fail (by decide +kernel) ⟨Nat.le_of_ble_eq_true rfl, Nat.le_of_ble_eq_true rfl⟩ rfl rfl rfl rfl (Nat.le_of_ble_eq_true rfl) dX3_fork_99 (fun r_99 σ_99 hc_99 => ?_)
        exact r_ireturn X dX3_fork_102
set_option maxRecDepth 100000 in
set_option maxHeartbeats 4000000 in
theorem c_X3_fork (l : Launch) (D : va_G) (cI cZ : ClassId) (α : Nat → Nat) (A : Nat → Prop) (hJ : ∀ σ, va_D A ((kwM cI cZ α) σ)) (x1 : Int32) (σ : KS) : Ct l D (tyA cI cZ) (kwM cI cZ α) A yX3_fork cX3_fork 6 (some .int) 3 vI [.ref (α 0), .int x1] σ (m_X3_fork x1 σ) := by
  refine Ct.of (own := RX3) hJ (by decide) rfl (Nat.le_of_ble_eq_true rfl) ?_
  intro p e s m args below meth c X
  refine r_sub (lv' := [(0, .ref (α 0)), (1, .int x1)]) [0, 1] rfl ?_
  unfold m_X3_fork
  refine r_aload_n X (j := 0) dX3_fork_0 rfl rfl ?_
  refine r_iload_n X (j := 1) dX3_fork_1 rfl rfl ?_
  refine r_callVi X (q0 := 0) (ci := 3) (n := 1) (As := [.int x1]) (st := []) (c_X3_isLive l D cI cZ α A hJ x1 σ) ml_X3_100 im_X3_isLive se_X3_isLive ii_X3 co_X3_isLive (by decide +kernel) ⟨Nat.le_of_ble_eq_true rfl, Nat.le_of_ble_eq_true rfl⟩ rfl rfl rfl rfl (Nat.le_of_ble_eq_true rfl) dX3_fork_2 (fun r_2 σ_2 hc_2 => ?_)
  refine r_if_ne X (tgt := 11) dX3_fork_5 (by decide) (fun _ => ?_) (fun _ => ?_)
  · refine r_bipush X (v := (-2)) dX3_fork_8 (by decide) ?_
    exact r_ireturn X dX3_fork_10
  · refine r_aload_n X (j := 0) dX3_fork_11 rfl rfl ?_
    refine r_callVi X (q0 := 0) (ci := 3) (n := 0) (As := []) (st := []) (c_X3_unusedNumber l D cI cZ α A hJ σ_2) ml_X3_83 im_X3_unusedNumber se_X3_unusedNumber ii_X3 co_X3_unusedNumber (by decide +kernel) ⟨Nat.le_of_ble_eq_true rfl, Nat.le_of_ble_eq_true rfl⟩ rfl rfl rfl rfl (Nat.le_of_ble_eq_true rfl) dX3_fork_12 (fun r_12 σ_12 hc_12 => ?_)
    refine r_istore_n X (lv' := [(2, .int r_12), (0, .ref (α 0)), (1, .int x1)]) dX3_fork_15 rfl (by decide) rfl ?_
    refine r_iload_n X (j := 0) dX3_fork_16 rfl rfl ?_
    refine r_if_ge X (tgt := 23) dX3_fork_17 (by decide) (fun _ => ?_) (fun _ => ?_)
    · refine r_aload_n X (j := 1) dX3_fork_23 rfl rfl ?_
      refine r_callVv X (q0 := 0) (ci := 3) (n := 0) (As := []) (st := []) (c_X3_layAside l D cI cZ α A hJ σ_12) ml_X3_87 im_X3_layAside se_X3_layAside ii_X3 co_X3_layAside (by decide +kernel) ⟨Nat.le_of_ble_eq_true rfl, Nat.le_of_ble_eq_true rfl⟩ rfl rfl rfl rfl (Nat.le_of_ble_eq_true rfl) dX3_fork_24 (fun r_24 σ_24 hc_24 => ?_)
      refine r_aload_n X (j := 1) dX3_fork_27 rfl rfl ?_
      refine r_iconst X (v := 1) dX3_fork_28 (by decide) ?_
      refine r_callVi X (q0 := 0) (ci := 3) (n := 1) (As := [.int 1]) (st := []) (c_X3_takeSmall l D cI cZ α A hJ 1 σ_24) ml_X3_90 im_X3_takeSmall se_X3_takeSmall ii_X3 co_X3_takeSmall (by decide +kernel) ⟨Nat.le_of_ble_eq_true rfl, Nat.le_of_ble_eq_true rfl⟩ rfl rfl rfl rfl (Nat.le_of_ble_eq_true rfl) dX3_fork_29 (fun r_29 σ_29 hc_29 => ?_)
      refine r_istore_n X (lv' := [(3, .int r_29), (2, .int r_12), (0, .ref (α 0)), (1, .int x1)]) dX3_fork_32 rfl (by decide) rfl ?_
      refine r_iload_n X (j := 0) dX3_fork_33 rfl rfl ?_
      refine r_if_ge X (tgt := 42) dX3_fork_34 (by decide) (fun _ => ?_) (fun _ => ?_)
      · refine r_aload_n X (j := 2) dX3_fork_42 rfl rfl ?_
        refine r_get X (ci := 3) (q0 := 0) (v := .ref (α 7)) inX3 rfl rfl 6 (by decide) rfl fl_X3_29 dX3_fork_43 ?_
        refine r_iload_n X (j := 3) dX3_fork_46 rfl rfl ?_
        refine r_iald X (q0 := 7) (t0 := 0) (kk := 7) rfl rfl dX3_fork_47 ?_
        refine r_bipush X (v := 15) dX3_fork_48 (by decide) ?_
        refine r_iadd X dX3_fork_50 ?_
        refine r_bipush X (v := 16) dX3_fork_51 (by decide) ?_
        refine r_idiv X dX3_fork_53 (by decide) ?_
        refine r_istore X (lv' := [(4, .int (((rd σ_29 7 x1) + 15) / 16)), (3, .int r_29), (2, .int r_12), (0, .ref (α 0)), (1, .int x1)]) dX3_fork_54 (by decide) rfl ?_
        refine r_iconst X (v := 0) dX3_fork_56 (by decide) ?_
        refine r_istore X (lv' := [(5, .int 0), (4, .int (((rd σ_29 7 x1) + 15) / 16)), (3, .int r_29), (2, .int r_12), (0, .ref (α 0)), (1, .int x1)]) dX3_fork_57 (by decide) rfl ?_
        refine r_sub (lv' := [(0, .ref (α 0)), (1, .int x1), (2, .int r_12), (3, .int r_29), (4, .int (((rd σ_29 7 x1) + 15) / 16)), (5, .int 0)]) [4, 5, 3, 2, 1, 0] rfl ?_
        exact cl_X3_fork_59 l D cI cZ α A hJ X FU x1 r_12 r_29 (((rd σ_29 7 x1) + 15) / 16) 0 σ_29
      · refine r_aload_n X (j := 2) dX3_fork_37 rfl rfl ?_
        refine r_callVi X (q0 := 0) (ci := 3) (n := 0) (As := []) (st := []) (c_X3_fail l D cI cZ α A hJ σ_29) ml_X3_93 im_X3_fail se_X3_fail ii_X3 co_X3_fail (by decide +kernel) ⟨Nat.le_of_ble_eq_true rfl, Nat.le_of_ble_eq_true rfl⟩ rfl rfl rfl rfl (Nat.le_of_ble_eq_true rfl) dX3_fork_38 (fun r_38 σ_38 hc_38 => ?_)
        exact r_ireturn X dX3_fork_41
    · refine r_bipush X (v := (-4)) dX3_fork_20 (by decide) ?_
      exact r_ireturn X dX3_fork_22
set_option maxRecDepth 100000 in
set_option maxHeartbeats 4000000 in
theorem cl_X3_grow_197 (l : Launch) (D : va_G) (cI cZ : ClassId) (α : Nat → Nat) (A : Nat → Prop) (hJ : ∀ σ, va_D A ((kwM cI cZ α) σ)) {p : Program} {e : Env} {s : State} {m : MethodId} {args : Array Value} {below : List Frame} {meth : Method} {c : Code} (X : CX p s m args meth c cX3_grow 8 RX3 D (tyA cI cZ) (kwM cI cZ α) A (some .int)) (kk : Int32 → Int32 → Int64 → Int32 → Int32 → KS → KR) (hkk : ∀ (y1 : Int32) (y2 : Int32) (y3 : Int64) (y5 : Int32) (y6 : Int32) (σ : KS), Cr p l e (rmd 3) s m args below meth c 8 D (kwM cI cZ α) A vI 186 [(0, .ref (α 0)), (1, .int y1), (2, .int y2), (3, .long y3), (5, .int y5), (6, .int y6)] [] σ (kk y1 y2 y3 y5 y6 σ)) : ∀ (n : Nat) (x1 : Int32) (x2 : Int32) (x3 : Int64) (x5 : Int32) (x6 : Int32) (x7 : Int32) (σ : KS), Cr p l e (rmd 3) s m args below meth c 8 D (kwM cI cZ α) A vI 197 [(0, .ref (α 0)), (1, .int x1), (2, .int x2), (3, .long x3), (5, .int x5), (6, .int x6), (7, .int x7)] [] σ (f_X3_grow_197 kk n x1 x2 x3 x5 x6 x7 σ) := by
  intro n
  induction n with
  | zero => intros; exact r_none
  | succ n ih =>
    intro x1 x2 x3 x5 x6 x7 σ
    rw [f_X3_grow_197]
    refine r_iload X (j := 6) dX3_grow_197 rfl ?_
    refine r_bipush X (v := 64) dX3_grow_199 (by decide) ?_
    refine r_icmp_ge X (tgt := 235) dX3_grow_201 (by decide) (fun _ => ?_) (fun _ => ?_)
    · refine r_iinc X (j := 5) (v := (x6 + 1)) (lv' := [(6, .int (x6 + 1)), (0, .ref (α 0)), (1, .int x1), (2, .int x2), (3, .long x3), (5, .int x5), (7, .int x7)]) dX3_grow_235 rfl rfl (by decide) rfl ?_
      refine r_goto X (tgt := 186) dX3_grow_238 (by decide) ?_
      refine r_sub (lv' := [(0, .ref (α 0)), (1, .int x1), (2, .int x2), (3, .long x3), (5, .int x5), (6, .int (x6 + 1))]) [1, 2, 3, 4, 5, 0] rfl ?_
      exact hkk x1 x2 x3 x5 (x6 + 1) σ
    · refine r_aload_n X (j := 0) dX3_grow_204 rfl rfl ?_
      refine r_get X (ci := 3) (q0 := 0) (v := .ref (α 4)) inX3 rfl rfl 3 (by decide) rfl fl_X3_20 dX3_grow_205 ?_
      refine r_bipush X (v := 64) dX3_grow_208 (by decide) ?_
      refine r_aload_n X (j := 0) dX3_grow_210 rfl rfl ?_
      refine r_get X (ci := 3) (q0 := 0) (v := .ref (α 11)) inX3 rfl rfl 10 (by decide) rfl fl_X3_41 dX3_grow_211 ?_
      refine r_sipush X (v := 256) dX3_grow_214 (by decide) ?_
      refine r_iload_n X (j := 1) dX3_grow_217 rfl rfl ?_
      refine r_imul X dX3_grow_218 ?_
      refine r_iload X (j := 5) dX3_grow_219 rfl ?_
      refine r_iadd X dX3_grow_221 ?_
      refine r_iald X (q0 := 11) (t0 := 0) (kk := 11) rfl rfl dX3_grow_222 ?_
      refine r_imul X dX3_grow_223 ?_
      refine r_iload X (j := 6) dX3_grow_224 rfl ?_
      refine r_iadd X dX3_grow_226 ?_
      refine r_iconst X (v := 0) dX3_grow_227 (by decide) ?_
      refine r_iast X (q0 := 4) (t0 := 0) (kk := 4) rfl (fun _ => rfl) rfl dX3_grow_228 ?_
      refine r_iinc X (j := 6) (v := (x7 + 1)) (lv' := [(7, .int (x7 + 1)), (0, .ref (α 0)), (1, .int x1), (2, .int x2), (3, .long x3), (5, .int x5), (6, .int x6)]) dX3_grow_229 rfl rfl (by decide) rfl ?_
      refine r_goto X (tgt := 197) dX3_grow_232 (by decide) ?_
      refine r_sub (lv' := [(0, .ref (α 0)), (1, .int x1), (2, .int x2), (3, .long x3), (5, .int x5), (6, .int x6), (7, .int (x7 + 1))]) [1, 2, 3, 4, 5, 6, 0] rfl ?_
      exact ih x1 x2 x3 x5 x6 (x7 + 1) (wr σ 4 ((64 * (rd σ 11 ((256 * x1) + x6))) + x7) 0)
set_option maxRecDepth 100000 in
set_option maxHeartbeats 4000000 in
theorem cl_X3_grow_186 (l : Launch) (D : va_G) (cI cZ : ClassId) (α : Nat → Nat) (A : Nat → Prop) (hJ : ∀ σ, va_D A ((kwM cI cZ α) σ)) {p : Program} {e : Env} {s : State} {m : MethodId} {args : Array Value} {below : List Frame} {meth : Method} {c : Code} (X : CX p s m args meth c cX3_grow 8 RX3 D (tyA cI cZ) (kwM cI cZ α) A (some .int)) : ∀ (n : Nat) (x1 : Int32) (x2 : Int32) (x3 : Int64) (x5 : Int32) (x6 : Int32) (σ : KS), Cr p l e (rmd 3) s m args below meth c 8 D (kwM cI cZ α) A vI 186 [(0, .ref (α 0)), (1, .int x1), (2, .int x2), (3, .long x3), (5, .int x5), (6, .int x6)] [] σ (f_X3_grow_186 n x1 x2 x3 x5 x6 σ) := by
  intro n
  induction n with
  | zero => intros; exact r_none
  | succ n ih =>
    intro x1 x2 x3 x5 x6 σ
    rw [f_X3_grow_186]
    refine r_iload X (j := 5) dX3_grow_186 rfl ?_
    refine r_i2l X dX3_grow_188 ?_
    refine r_lload_n X (j := 3) dX3_grow_189 rfl rfl ?_
    refine r_lcmp X dX3_grow_190 ?_
    refine r_if_ge X (tgt := 241) dX3_grow_191 (by decide) (fun _ => ?_) (fun _ => ?_)
    · refine r_aload_n X (j := 0) dX3_grow_241 rfl rfl ?_
      refine r_get X (ci := 3) (q0 := 0) (v := .ref (α 7)) inX3 rfl rfl 6 (by decide) rfl fl_X3_29 dX3_grow_242 ?_
      refine r_iload_n X (j := 1) dX3_grow_245 rfl rfl ?_
      refine r_lload_n X (j := 3) dX3_grow_246 rfl rfl ?_
      refine r_l2i X dX3_grow_247 ?_
      refine r_iast X (q0 := 7) (t0 := 0) (kk := 7) rfl (fun _ => rfl) rfl dX3_grow_248 ?_
      refine r_iload X (j := 4) dX3_grow_249 rfl ?_
      exact r_ireturn X dX3_grow_251
    · refine r_iconst X (v := 0) dX3_grow_194 (by decide) ?_
      refine r_istore X (lv' := [(7, .int 0), (0, .ref (α 0)), (1, .int x1), (2, .int x2), (3, .long x3), (5, .int x5), (6, .int x6)]) dX3_grow_195 (by decide) rfl ?_
      refine r_sub (lv' := [(0, .ref (α 0)), (1, .int x1), (2, .int x2), (3, .long x3), (5, .int x5), (6, .int x6), (7, .int 0)]) [1, 2, 3, 4, 5, 6, 0] rfl ?_
      exact cl_X3_grow_197 l D cI cZ α A hJ X (fun y1 y2 y3 y5 y6 σ => f_X3_grow_186 n y1 y2 y3 y5 y6 σ) (fun y1 y2 y3 y5 y6 σ => ih y1 y2 y3 y5 y6 σ) FU x1 x2 x3 x5 x6 0 σ
set_option maxRecDepth 100000 in
set_option maxHeartbeats 4000000 in
theorem cl_X3_grow_85 (l : Launch) (D : va_G) (cI cZ : ClassId) (α : Nat → Nat) (A : Nat → Prop) (hJ : ∀ σ, va_D A ((kwM cI cZ α) σ)) {p : Program} {e : Env} {s : State} {m : MethodId} {args : Array Value} {below : List Frame} {meth : Method} {c : Code} (X : CX p s m args meth c cX3_grow 8 RX3 D (tyA cI cZ) (kwM cI cZ α) A (some .int)) : ∀ (n : Nat) (x1 : Int32) (x2 : Int32) (x3 : Int64) (x5 : Int32) (x6 : Int32) (σ : KS), Cr p l e (rmd 3) s m args below meth c 8 D (kwM cI cZ α) A vI 85 [(0, .ref (α 0)), (1, .int x1), (2, .int x2), (3, .long x3), (5, .int x5), (6, .int x6)] [] σ (f_X3_grow_85 n x1 x2 x3 x5 x6 σ) := by
  intro n
  induction n with
  | zero => intros; exact r_none
  | succ n ih =>
    intro x1 x2 x3 x5 x6 σ
    rw [f_X3_grow_85]
    refine r_iload X (j := 5) dX3_grow_85 rfl ?_
    refine r_i2l X dX3_grow_87 ?_
    refine r_lload_n X (j := 3) dX3_grow_88 rfl rfl ?_
    refine r_lcmp X dX3_grow_89 ?_
    refine r_if_ge X (tgt := 182) dX3_grow_90 (by decide) (fun _ => ?_) (fun _ => ?_)
    · refine r_iload X (j := 4) dX3_grow_182 rfl ?_
      refine r_istore X (lv' := [(6, .int x5), (0, .ref (α 0)), (1, .int x1), (2, .int x2), (3, .long x3), (5, .int x5)]) dX3_grow_184 (by decide) rfl ?_
      refine r_sub (lv' := [(0, .ref (α 0)), (1, .int x1), (2, .int x2), (3, .long x3), (5, .int x5), (6, .int x5)]) [1, 2, 3, 4, 5, 0] rfl ?_
      exact cl_X3_grow_186 l D cI cZ α A hJ X FU x1 x2 x3 x5 x5 σ
    · refine r_iload X (j := 5) dX3_grow_93 rfl ?_
      refine r_bipush X (v := 16) dX3_grow_95 (by decide) ?_
      refine r_irem X dX3_grow_97 (by decide) ?_
      refine r_if_ne X (tgt := 144) dX3_grow_98 (by decide) (fun _ => ?_) (fun _ => ?_)
      · refine r_aload_n X (j := 0) dX3_grow_101 rfl rfl ?_
        refine r_get X (ci := 3) (q0 := 0) (v := .ref (α 12)) inX3 rfl rfl 11 (by decide) rfl fl_X3_44 dX3_grow_102 ?_
        refine r_bipush X (v := 16) dX3_grow_105 (by decide) ?_
        refine r_iload_n X (j := 1) dX3_grow_107 rfl rfl ?_
        refine r_imul X dX3_grow_108 ?_
        refine r_iload X (j := 5) dX3_grow_109 rfl ?_
        refine r_bipush X (v := 16) dX3_grow_111 (by decide) ?_
        refine r_idiv X dX3_grow_113 (by decide) ?_
        refine r_iadd X dX3_grow_114 ?_
        refine r_aload_n X (j := 0) dX3_grow_115 rfl rfl ?_
        refine r_iconst X (v := 2) dX3_grow_116 (by decide) ?_
        refine r_callVi X (q0 := 0) (ci := 3) (n := 1) (As := [.int 2]) (st := [.int ((16 * x1) + (x6 / 16)), .ref (α 12)]) (c_X3_takeSmall l D cI cZ α A hJ 2 σ) ml_X3_90 im_X3_takeSmall se_X3_takeSmall ii_X3 co_X3_takeSmall (by decide +kernel) ⟨Nat.le_of_ble_eq_true rfl, Nat.le_of_ble_eq_true rfl⟩ rfl rfl rfl rfl (Nat.le_of_ble_eq_true rfl) dX3_grow_117 (fun r_117 σ_117 hc_117 => ?_)
        refine r_iast X (q0 := 12) (t0 := 0) (kk := 12) rfl (fun _ => rfl) rfl dX3_grow_120 ?_
        refine r_aload_n X (j := 0) dX3_grow_121 rfl rfl ?_
        refine r_get X (ci := 3) (q0 := 0) (v := .ref (α 12)) inX3 rfl rfl 11 (by decide) rfl fl_X3_44 dX3_grow_122 ?_
        refine r_bipush X (v := 16) dX3_grow_125 (by decide) ?_
        refine r_iload_n X (j := 1) dX3_grow_127 rfl rfl ?_
        refine r_imul X dX3_grow_128 ?_
        refine r_iload X (j := 5) dX3_grow_129 rfl ?_
        refine r_bipush X (v := 16) dX3_grow_131 (by decide) ?_
        refine r_idiv X dX3_grow_133 (by decide) ?_
        refine r_iadd X dX3_grow_134 ?_
        refine r_iald X (q0 := 12) (t0 := 0) (kk := 12) rfl rfl dX3_grow_135 ?_
        refine r_if_ge X (tgt := 144) dX3_grow_136 (by decide) (fun _ => ?_) (fun _ => ?_)
        · refine r_aload_n X (j := 0) dX3_grow_144 rfl rfl ?_
          refine r_iconst X (v := 3) dX3_grow_145 (by decide) ?_
          refine r_callVi X (q0 := 0) (ci := 3) (n := 1) (As := [.int 3]) (st := []) (c_X3_takeFrame l D cI cZ α A hJ 3 (wr σ_117 12 ((16 * x1) + (x6 / 16)) r_117)) ml_X3_70 im_X3_takeFrame se_X3_takeFrame ii_X3 co_X3_takeFrame (by decide +kernel) ⟨Nat.le_of_ble_eq_true rfl, Nat.le_of_ble_eq_true rfl⟩ rfl rfl rfl rfl (Nat.le_of_ble_eq_true rfl) dX3_grow_146 (fun r_146 σ_146 hc_146 => ?_)
          refine r_istore X (lv' := [(7, .int r_146), (0, .ref (α 0)), (1, .int x1), (2, .int x2), (3, .long x3), (5, .int x5), (6, .int x6)]) dX3_grow_149 (by decide) rfl ?_
          refine r_iload X (j := 0) dX3_grow_151 rfl ?_
          refine r_if_ge X (tgt := 161) dX3_grow_153 (by decide) (fun _ => ?_) (fun _ => ?_)
          · refine r_aload_n X (j := 1) dX3_grow_161 rfl rfl ?_
            refine r_get X (ci := 3) (q0 := 0) (v := .ref (α 11)) inX3 rfl rfl 10 (by decide) rfl fl_X3_41 dX3_grow_162 ?_
            refine r_sipush X (v := 256) dX3_grow_165 (by decide) ?_
            refine r_iload_n X (j := 2) dX3_grow_168 rfl rfl ?_
            refine r_imul X dX3_grow_169 ?_
            refine r_iload X (j := 6) dX3_grow_170 rfl ?_
            refine r_iadd X dX3_grow_172 ?_
            refine r_iload X (j := 0) dX3_grow_173 rfl ?_
            refine r_iast X (q0 := 11) (t0 := 0) (kk := 11) rfl (fun _ => rfl) rfl dX3_grow_175 ?_
            refine r_iinc X (j := 6) (v := (x6 + 1)) (lv' := [(6, .int (x6 + 1)), (7, .int r_146), (0, .ref (α 0)), (1, .int x1), (2, .int x2), (3, .long x3), (5, .int x5)]) dX3_grow_176 rfl rfl (by decide) rfl ?_
            refine r_goto X (tgt := 85) dX3_grow_179 (by decide) ?_
            refine r_sub (lv' := [(0, .ref (α 0)), (1, .int x1), (2, .int x2), (3, .long x3), (5, .int x5), (6, .int (x6 + 1))]) [2, 3, 4, 5, 6, 0] rfl ?_
            exact ih x1 x2 x3 x5 (x6 + 1) (wr σ_146 11 ((256 * x1) + x6) r_146)
          · refine r_aload_n X (j := 1) dX3_grow_156 rfl rfl ?_
            refine r_callVi X (q0 := 0) (ci := 3) (n := 0) (As := []) (st := []) (c_X3_fail l D cI cZ α A hJ σ_146) ml_X3_93 im_X3_fail se_X3_fail ii_X3 co_X3_fail (by decide +kernel) ⟨Nat.le_of_ble_eq_true rfl, Nat.le_of_ble_eq_true rfl⟩ rfl rfl rfl rfl (Nat.le_of_ble_eq_true rfl) dX3_grow_157 (fun r_157 σ_157 hc_157 => ?_)
            exact r_ireturn X dX3_grow_160
        · refine r_aload_n X (j := 0) dX3_grow_139 rfl rfl ?_
          refine r_callVi X (q0 := 0) (ci := 3) (n := 0) (As := []) (st := []) (c_X3_fail l D cI cZ α A hJ (wr σ_117 12 ((16 * x1) + (x6 / 16)) r_117)) ml_X3_93 im_X3_fail se_X3_fail ii_X3 co_X3_fail (by decide +kernel) ⟨Nat.le_of_ble_eq_true rfl, Nat.le_of_ble_eq_true rfl⟩ rfl rfl rfl rfl (Nat.le_of_ble_eq_true rfl) dX3_grow_140 (fun r_140 σ_140 hc_140 => ?_)
          exact r_ireturn X dX3_grow_143
      · refine r_aload_n X (j := 0) dX3_grow_144 rfl rfl ?_
        refine r_iconst X (v := 3) dX3_grow_145 (by decide) ?_
        refine r_callVi X (q0 := 0) (ci := 3) (n := 1) (As := [.int 3]) (st := []) (c_X3_takeFrame l D cI cZ α A hJ 3 σ) ml_X3_70 im_X3_takeFrame se_X3_takeFrame ii_X3 co_X3_takeFrame (by decide +kernel) ⟨Nat.le_of_ble_eq_true rfl, Nat.le_of_ble_eq_true rfl⟩ rfl rfl rfl rfl (Nat.le_of_ble_eq_true rfl) dX3_grow_146 (fun r_146 σ_146 hc_146 => ?_)
        refine r_istore X (lv' := [(7, .int r_146), (0, .ref (α 0)), (1, .int x1), (2, .int x2), (3, .long x3), (5, .int x5), (6, .int x6)]) dX3_grow_149 (by decide) rfl ?_
        refine r_iload X (j := 0) dX3_grow_151 rfl ?_
        refine r_if_ge X (tgt := 161) dX3_grow_153 (by decide) (fun _ => ?_) (fun _ => ?_)
        · refine r_aload_n X (j := 1) dX3_grow_161 rfl rfl ?_
          refine r_get X (ci := 3) (q0 := 0) (v := .ref (α 11)) inX3 rfl rfl 10 (by decide) rfl fl_X3_41 dX3_grow_162 ?_
          refine r_sipush X (v := 256) dX3_grow_165 (by decide) ?_
          refine r_iload_n X (j := 2) dX3_grow_168 rfl rfl ?_
          refine r_imul X dX3_grow_169 ?_
          refine r_iload X (j := 6) dX3_grow_170 rfl ?_
          refine r_iadd X dX3_grow_172 ?_
          refine r_iload X (j := 0) dX3_grow_173 rfl ?_
          refine r_iast X (q0 := 11) (t0 := 0) (kk := 11) rfl (fun _ => rfl) rfl dX3_grow_175 ?_
          refine r_iinc X (j := 6) (v := (x6 + 1)) (lv' := [(6, .int (x6 + 1)), (7, .int r_146), (0, .ref (α 0)), (1, .int x1), (2, .int x2), (3, .long x3), (5, .int x5)]) dX3_grow_176 rfl rfl (by decide) rfl ?_
          refine r_goto X (tgt := 85) dX3_grow_179 (by decide) ?_
          refine r_sub (lv' := [(0, .ref (α 0)), (1, .int x1), (2, .int x2), (3, .long x3), (5, .int x5), (6, .int (x6 + 1))]) [2, 3, 4, 5, 6, 0] rfl ?_
          exact ih x1 x2 x3 x5 (x6 + 1) (wr σ_146 11 ((256 * x1) + x6) r_146)
        · refine r_aload_n X (j := 1) dX3_grow_156 rfl rfl ?_
          refine r_callVi X (q0 := 0) (ci := 3) (n := 0) (As := []) (st := []) (c_X3_fail l D cI cZ α A hJ σ_146) ml_X3_93 im_X3_fail se_X3_fail ii_X3 co_X3_fail (by decide +kernel) ⟨Nat.le_of_ble_eq_true rfl, Nat.le_of_ble_eq_true rfl⟩ rfl rfl rfl rfl (Nat.le_of_ble_eq_true rfl) dX3_grow_157 (fun r_157 σ_157 hc_157 => ?_)
          exact r_ireturn X dX3_grow_160
set_option maxRecDepth 100000 in
set_option maxHeartbeats 4000000 in
theorem cl_X3_grow_54 (l : Launch) (D : va_G) (cI cZ : ClassId) (α : Nat → Nat) (A : Nat → Prop) (hJ : ∀ σ, va_D A ((kwM cI cZ α) σ)) {p : Program} {e : Env} {s : State} {m : MethodId} {args : Array Value} {below : List Frame} {meth : Method} {c : Code} (X : CX p s m args meth c cX3_grow 8 RX3 D (tyA cI cZ) (kwM cI cZ α) A (some .int)) : ∀ (n : Nat) (x1 : Int32) (x2 : Int32) (x3 : Int64) (x5 : Int32) (σ : KS), Cr p l e (rmd 3) s m args below meth c 8 D (kwM cI cZ α) A vI 54 [(0, .ref (α 0)), (1, .int x1), (2, .int x2), (3, .long x3), (5, .int x5)] [] σ (f_X3_grow_54 n x1 x2 x3 x5 σ) := by
  intro n
  induction n with
  | zero => intros; exact r_none
  | succ n ih =>
    intro x1 x2 x3 x5 σ
    rw [f_X3_grow_54]
    refine r_aload_n X (j := 0) dX3_grow_54 rfl rfl ?_
    refine r_get X (ci := 3) (q0 := 0) (v := .ref (α 7)) inX3 rfl rfl 6 (by decide) rfl fl_X3_29 dX3_grow_55 ?_
    refine r_iload_n X (j := 1) dX3_grow_58 rfl rfl ?_
    refine r_iald X (q0 := 7) (t0 := 0) (kk := 7) rfl rfl dX3_grow_59 ?_
    refine r_i2l X dX3_grow_60 ?_
    refine r_lload_n X (j := 3) dX3_grow_61 rfl rfl ?_
    refine r_lcmp X dX3_grow_62 ?_
    refine r_if_le X (tgt := 74) dX3_grow_63 (by decide) (fun _ => ?_) (fun _ => ?_)
    · refine r_iload X (j := 4) dX3_grow_74 rfl ?_
      exact r_ireturn X dX3_grow_76
    · refine r_aload_n X (j := 0) dX3_grow_66 rfl rfl ?_
      refine r_iload_n X (j := 1) dX3_grow_67 rfl rfl ?_
      refine r_callVv X (q0 := 0) (ci := 3) (n := 1) (As := [.int x1]) (st := []) (c_X3_dropPage l D cI cZ α A hJ x1 σ) ml_X3_115 im_X3_dropPage se_X3_dropPage ii_X3 co_X3_dropPage (by decide +kernel) ⟨Nat.le_of_ble_eq_true rfl, Nat.le_of_ble_eq_true rfl⟩ rfl rfl rfl rfl (Nat.le_of_ble_eq_true rfl) dX3_grow_68 (fun r_68 σ_68 hc_68 => ?_)
      refine r_goto X (tgt := 54) dX3_grow_71 (by decide) ?_
      refine r_sub (lv' := [(0, .ref (α 0)), (1, .int x1), (2, .int x2), (3, .long x3), (5, .int x5)]) [0, 1, 2, 3, 4] rfl ?_
      exact ih x1 x2 x3 x5 σ_68
set_option maxRecDepth 100000 in
set_option maxHeartbeats 4000000 in
theorem c_X3_grow (l : Launch) (D : va_G) (cI cZ : ClassId) (α : Nat → Nat) (A : Nat → Prop) (hJ : ∀ σ, va_D A ((kwM cI cZ α) σ)) (x1 x2 : Int32) (σ : KS) : Ct l D (tyA cI cZ) (kwM cI cZ α) A yX3_grow cX3_grow 8 (some .int) 3 vI [.ref (α 0), .int x1, .int x2] σ (m_X3_grow x1 x2 σ) := by
  refine Ct.of (own := RX3) hJ (by decide) rfl (Nat.le_of_ble_eq_true rfl) ?_
  intro p e s m args below meth c X
  refine r_sub (lv' := [(0, .ref (α 0)), (1, .int x1), (2, .int x2)]) [0, 1, 2] rfl ?_
  unfold m_X3_grow
  refine r_aload_n X (j := 0) dX3_grow_0 rfl rfl ?_
  refine r_iload_n X (j := 1) dX3_grow_1 rfl rfl ?_
  refine r_callVi X (q0 := 0) (ci := 3) (n := 1) (As := [.int x1]) (st := []) (c_X3_isLive l D cI cZ α A hJ x1 σ) ml_X3_100 im_X3_isLive se_X3_isLive ii_X3 co_X3_isLive (by decide +kernel) ⟨Nat.le_of_ble_eq_true rfl, Nat.le_of_ble_eq_true rfl⟩ rfl rfl rfl rfl (Nat.le_of_ble_eq_true rfl) dX3_grow_2 (fun r_2 σ_2 hc_2 => ?_)
  refine r_if_eq X (tgt := 21) dX3_grow_5 (by decide) (fun _ => ?_) (fun _ => ?_)
  · refine r_ldc2 X kl_111 dX3_grow_21 ?_
    refine r_lstore_n X (lv' := [(3, .long (-1)), (0, .ref (α 0)), (1, .int x1), (2, .int x2)]) dX3_grow_24 rfl (by decide) rfl ?_
    refine r_lload_n X (j := 0) dX3_grow_25 rfl rfl ?_
    refine r_lconst X (v := 0) dX3_grow_26 (by decide) ?_
    refine r_lcmp X dX3_grow_27 ?_
    refine r_if_lt X (tgt := 39) dX3_grow_28 (by decide) (fun _ => ?_) (fun _ => ?_)
    · refine r_bipush X (v := (-2)) dX3_grow_39 (by decide) ?_
      exact r_ireturn X dX3_grow_41
    · refine r_lload_n X (j := 0) dX3_grow_31 rfl rfl ?_
      refine r_ldc2 X kl_113 dX3_grow_32 ?_
      refine r_lcmp X dX3_grow_35 ?_
      refine r_if_le X (tgt := 42) dX3_grow_36 (by decide) (fun _ => ?_) (fun _ => ?_)
      · refine r_aload_n X (j := 1) dX3_grow_42 rfl rfl ?_
        refine r_get X (ci := 3) (q0 := 0) (v := .ref (α 7)) inX3 rfl rfl 6 (by decide) rfl fl_X3_29 dX3_grow_43 ?_
        refine r_iload_n X (j := 2) dX3_grow_46 rfl rfl ?_
        refine r_iald X (q0 := 7) (t0 := 0) (kk := 7) rfl rfl dX3_grow_47 ?_
        refine r_istore X (lv' := [(5, .int (rd σ_2 7 x1)), (3, .long (-1)), (0, .ref (α 0)), (1, .int x1), (2, .int x2)]) dX3_grow_48 (by decide) rfl ?_
        refine r_iload_n X (j := 4) dX3_grow_50 rfl rfl ?_
        refine r_if_gt X (tgt := 77) dX3_grow_51 (by decide) (fun _ => ?_) (fun _ => ?_)
        · refine r_aload_n X (j := 2) dX3_grow_77 rfl rfl ?_
          refine r_callVv X (q0 := 0) (ci := 3) (n := 0) (As := []) (st := []) (c_X3_layAside l D cI cZ α A hJ σ_2) ml_X3_87 im_X3_layAside se_X3_layAside ii_X3 co_X3_layAside (by decide +kernel) ⟨Nat.le_of_ble_eq_true rfl, Nat.le_of_ble_eq_true rfl⟩ rfl rfl rfl rfl (Nat.le_of_ble_eq_true rfl) dX3_grow_78 (fun r_78 σ_78 hc_78 => ?_)
          refine r_iload X (j := 0) dX3_grow_81 rfl ?_
          refine r_istore X (lv' := [(6, .int (rd σ_2 7 x1)), (5, .int (rd σ_2 7 x1)), (3, .long (-1)), (0, .ref (α 0)), (1, .int x1), (2, .int x2)]) dX3_grow_83 (by decide) rfl ?_
          refine r_sub (lv' := [(0, .ref (α 0)), (1, .int x1), (2, .int x2), (3, .long (-1)), (5, .int (rd σ_2 7 x1)), (6, .int (rd σ_2 7 x1))]) [3, 4, 5, 2, 1, 0] rfl ?_
          exact cl_X3_grow_85 l D cI cZ α A hJ X FU x1 x2 (-1) (rd σ_2 7 x1) (rd σ_2 7 x1) σ_78
        · refine r_sub (lv' := [(0, .ref (α 0)), (1, .int x1), (2, .int x2), (3, .long (-1)), (5, .int (rd σ_2 7 x1))]) [2, 3, 4, 1, 0] rfl ?_
          exact cl_X3_grow_54 l D cI cZ α A hJ X FU x1 x2 (-1) (rd σ_2 7 x1) σ_2
      · refine r_bipush X (v := (-2)) dX3_grow_39 (by decide) ?_
        exact r_ireturn X dX3_grow_41
  · refine r_aload_n X (j := 0) dX3_grow_8 rfl rfl ?_
    refine r_get X (ci := 3) (q0 := 0) (v := .ref (α 7)) inX3 rfl rfl 6 (by decide) rfl fl_X3_29 dX3_grow_9 ?_
    refine r_iload_n X (j := 1) dX3_grow_12 rfl rfl ?_
    refine r_iald X (q0 := 7) (t0 := 0) (kk := 7) rfl rfl dX3_grow_13 ?_
    refine r_i2l X dX3_grow_14 ?_
    refine r_iload_n X (j := 2) dX3_grow_15 rfl rfl ?_
    refine r_i2l X dX3_grow_16 ?_
    refine r_ladd X dX3_grow_17 ?_
    refine r_goto X (tgt := 24) dX3_grow_18 (by decide) ?_
    refine r_lstore_n X (lv' := [(3, .long (((rd σ_2 7 x1).toInt64) + x2.toInt64)), (0, .ref (α 0)), (1, .int x1), (2, .int x2)]) dX3_grow_24 rfl (by decide) rfl ?_
    refine r_lload_n X (j := 0) dX3_grow_25 rfl rfl ?_
    refine r_lconst X (v := 0) dX3_grow_26 (by decide) ?_
    refine r_lcmp X dX3_grow_27 ?_
    refine r_if_lt X (tgt := 39) dX3_grow_28 (by decide) (fun _ => ?_) (fun _ => ?_)
    · refine r_bipush X (v := (-2)) dX3_grow_39 (by decide) ?_
      exact r_ireturn X dX3_grow_41
    · refine r_lload_n X (j := 0) dX3_grow_31 rfl rfl ?_
      refine r_ldc2 X kl_113 dX3_grow_32 ?_
      refine r_lcmp X dX3_grow_35 ?_
      refine r_if_le X (tgt := 42) dX3_grow_36 (by decide) (fun _ => ?_) (fun _ => ?_)
      · refine r_aload_n X (j := 1) dX3_grow_42 rfl rfl ?_
        refine r_get X (ci := 3) (q0 := 0) (v := .ref (α 7)) inX3 rfl rfl 6 (by decide) rfl fl_X3_29 dX3_grow_43 ?_
        refine r_iload_n X (j := 2) dX3_grow_46 rfl rfl ?_
        refine r_iald X (q0 := 7) (t0 := 0) (kk := 7) rfl rfl dX3_grow_47 ?_
        refine r_istore X (lv' := [(5, .int (rd σ_2 7 x1)), (3, .long (((rd σ_2 7 x1).toInt64) + x2.toInt64)), (0, .ref (α 0)), (1, .int x1), (2, .int x2)]) dX3_grow_48 (by decide) rfl ?_
        refine r_iload_n X (j := 4) dX3_grow_50 rfl rfl ?_
        refine r_if_gt X (tgt := 77) dX3_grow_51 (by decide) (fun _ => ?_) (fun _ => ?_)
        · refine r_aload_n X (j := 2) dX3_grow_77 rfl rfl ?_
          refine r_callVv X (q0 := 0) (ci := 3) (n := 0) (As := []) (st := []) (c_X3_layAside l D cI cZ α A hJ σ_2) ml_X3_87 im_X3_layAside se_X3_layAside ii_X3 co_X3_layAside (by decide +kernel) ⟨Nat.le_of_ble_eq_true rfl, Nat.le_of_ble_eq_true rfl⟩ rfl rfl rfl rfl (Nat.le_of_ble_eq_true rfl) dX3_grow_78 (fun r_78 σ_78 hc_78 => ?_)
          refine r_iload X (j := 0) dX3_grow_81 rfl ?_
          refine r_istore X (lv' := [(6, .int (rd σ_2 7 x1)), (5, .int (rd σ_2 7 x1)), (3, .long (((rd σ_2 7 x1).toInt64) + x2.toInt64)), (0, .ref (α 0)), (1, .int x1), (2, .int x2)]) dX3_grow_83 (by decide) rfl ?_
          refine r_sub (lv' := [(0, .ref (α 0)), (1, .int x1), (2, .int x2), (3, .long (((rd σ_2 7 x1).toInt64) + x2.toInt64)), (5, .int (rd σ_2 7 x1)), (6, .int (rd σ_2 7 x1))]) [3, 4, 5, 2, 1, 0] rfl ?_
          exact cl_X3_grow_85 l D cI cZ α A hJ X FU x1 x2 (((rd σ_2 7 x1).toInt64) + x2.toInt64) (rd σ_2 7 x1) (rd σ_2 7 x1) σ_78
        · refine r_sub (lv' := [(0, .ref (α 0)), (1, .int x1), (2, .int x2), (3, .long (((rd σ_2 7 x1).toInt64) + x2.toInt64)), (5, .int (rd σ_2 7 x1))]) [2, 3, 4, 1, 0] rfl ?_
          exact cl_X3_grow_54 l D cI cZ α A hJ X FU x1 x2 (((rd σ_2 7 x1).toInt64) + x2.toInt64) (rd σ_2 7 x1) σ_2
      · refine r_bipush X (v := (-2)) dX3_grow_39 (by decide) ?_
        exact r_ireturn X dX3_grow_41
set_option maxRecDepth 100000 in
set_option maxHeartbeats 4000000 in
theorem cl_X3_reap_15 (l : Launch) (D : va_G) (cI cZ : ClassId) (α : Nat → Nat) (A : Nat → Prop) (hJ : ∀ σ, va_D A ((kwM cI cZ α) σ)) {p : Program} {e : Env} {s : State} {m : MethodId} {args : Array Value} {below : List Frame} {meth : Method} {c : Code} (X : CX p s m args meth c cX3_reap 5 RX3 D (tyA cI cZ) (kwM cI cZ α) A (some .int)) : ∀ (n : Nat) (x1 : Int32) (x2 : Int32) (x3 : Int32) (σ : KS), Cr p l e (rmd 3) s m args below meth c 5 D (kwM cI cZ α) A vI 15 [(0, .ref (α 0)), (1, .int x1), (2, .int x2), (3, .int x3)] [] σ (f_X3_reap_15 n x1 x2 x3 σ) := by
  intro n
  induction n with
  | zero => intros; exact r_none
  | succ n ih =>
    intro x1 x2 x3 σ
    rw [f_X3_reap_15]
    refine r_iload_n X (j := 3) dX3_reap_15 rfl rfl ?_
    refine r_bipush X (v := 16) dX3_reap_16 (by decide) ?_
    refine r_icmp_ge X (tgt := 103) dX3_reap_18 (by decide) (fun _ => ?_) (fun _ => ?_)
    · refine r_iload_n X (j := 2) dX3_reap_103 rfl rfl ?_
      refine r_if_ne X (tgt := 112) dX3_reap_104 (by decide) (fun _ => ?_) (fun _ => ?_)
      · refine r_bipush X (v := (-6)) dX3_reap_107 (by decide) ?_
        refine r_goto X (tgt := 114) dX3_reap_109 (by decide) ?_
        exact r_ireturn X dX3_reap_114
      · refine r_bipush X (v := (-7)) dX3_reap_112 (by decide) ?_
        exact r_ireturn X dX3_reap_114
    · refine r_aload_n X (j := 0) dX3_reap_21 rfl rfl ?_
      refine r_get X (ci := 3) (q0 := 0) (v := .ref (α 6)) inX3 rfl rfl 5 (by decide) rfl fl_X3_26 dX3_reap_22 ?_
      refine r_iload_n X (j := 3) dX3_reap_25 rfl rfl ?_
      refine r_iald X (q0 := 6) (t0 := 0) (kk := 6) rfl rfl dX3_reap_26 ?_
      refine r_if_eq X (tgt := 44) dX3_reap_27 (by decide) (fun _ => ?_) (fun _ => ?_)
      · refine r_iconst X (v := 0) dX3_reap_44 (by decide) ?_
        refine r_istore X (lv' := [(4, .int 0), (0, .ref (α 0)), (1, .int x1), (2, .int x2), (3, .int x3)]) dX3_reap_45 (by decide) rfl ?_
        refine r_iload X (j := 0) dX3_reap_47 rfl ?_
        refine r_t (by decide) (r_if_eq X (tgt := 84) (k2 := none) dX3_reap_49 (by decide) (fun _ => ?_) (fun _ => r_none))
        refine r_iload_n X (j := 3) dX3_reap_84 rfl rfl ?_
        refine r_iload X (j := 0) dX3_reap_85 rfl ?_
        refine r_t (by decide) (r_if_eq X (tgt := 94) (k2 := none) dX3_reap_87 (by decide) (fun _ => ?_) (fun _ => r_none))
        refine r_iconst X (v := 0) dX3_reap_94 (by decide) ?_
        refine r_iadd X dX3_reap_95 ?_
        refine r_istore_n X (lv' := [(2, .int (x2 + 0)), (4, .int 0), (0, .ref (α 0)), (1, .int x1), (3, .int x3)]) dX3_reap_96 rfl (by decide) rfl ?_
        refine r_iinc X (j := 4) (v := (x3 + 1)) (lv' := [(3, .int (x3 + 1)), (2, .int (x2 + 0)), (4, .int 0), (0, .ref (α 0)), (1, .int x1)]) dX3_reap_97 rfl rfl (by decide) rfl ?_
        refine r_goto X (tgt := 15) dX3_reap_100 (by decide) ?_
        refine r_sub (lv' := [(0, .ref (α 0)), (1, .int x1), (2, .int (x2 + 0)), (3, .int (x3 + 1))]) [3, 4, 1, 0] rfl ?_
        exact ih x1 (x2 + 0) (x3 + 1) σ
      · refine r_aload_n X (j := 0) dX3_reap_30 rfl rfl ?_
        refine r_get X (ci := 3) (q0 := 0) (v := .ref (α 8)) inX3 rfl rfl 7 (by decide) rfl fl_X3_32 dX3_reap_31 ?_
        refine r_iload_n X (j := 3) dX3_reap_34 rfl rfl ?_
        refine r_iald X (q0 := 8) (t0 := 0) (kk := 8) rfl rfl dX3_reap_35 ?_
        refine r_iload_n X (j := 1) dX3_reap_36 rfl rfl ?_
        refine r_icmp_ne X (tgt := 44) dX3_reap_37 (by decide) (fun _ => ?_) (fun _ => ?_)
        · refine r_iconst X (v := 1) dX3_reap_40 (by decide) ?_
          refine r_goto X (tgt := 45) dX3_reap_41 (by decide) ?_
          refine r_istore X (lv' := [(4, .int 1), (0, .ref (α 0)), (1, .int x1), (2, .int x2), (3, .int x3)]) dX3_reap_45 (by decide) rfl ?_
          refine r_iload X (j := 0) dX3_reap_47 rfl ?_
          refine r_f (by decide) (r_if_eq X (tgt := 84) (k1 := none) dX3_reap_49 (by decide) (fun _ => r_none) (fun _ => ?_))
          refine r_aload_n X (j := 1) dX3_reap_52 rfl rfl ?_
          refine r_get X (ci := 3) (q0 := 0) (v := .ref (α 6)) inX3 rfl rfl 5 (by decide) rfl fl_X3_26 dX3_reap_53 ?_
          refine r_iload_n X (j := 4) dX3_reap_56 rfl rfl ?_
          refine r_iald X (q0 := 6) (t0 := 0) (kk := 6) rfl rfl dX3_reap_57 ?_
          refine r_iconst X (v := 2) dX3_reap_58 (by decide) ?_
          refine r_icmp_ne X (tgt := 84) dX3_reap_59 (by decide) (fun _ => ?_) (fun _ => ?_)
          · refine r_aload_n X (j := 1) dX3_reap_62 rfl rfl ?_
            refine r_iload_n X (j := 4) dX3_reap_63 rfl rfl ?_
            refine r_callVv X (q0 := 0) (ci := 3) (n := 1) (As := [.int x3]) (st := []) (c_X3_vanish l D cI cZ α A hJ x3 σ) ml_X3_128 im_X3_vanish se_X3_vanish ii_X3 co_X3_vanish (by decide +kernel) ⟨Nat.le_of_ble_eq_true rfl, Nat.le_of_ble_eq_true rfl⟩ rfl rfl rfl rfl (Nat.le_of_ble_eq_true rfl) dX3_reap_64 (fun r_64 σ_64 hc_64 => ?_)
            refine r_sipush X (v := 256) dX3_reap_67 (by decide) ?_
            refine r_iload_n X (j := 4) dX3_reap_70 rfl rfl ?_
            refine r_imul X dX3_reap_71 ?_
            refine r_aload_n X (j := 1) dX3_reap_72 rfl rfl ?_
            refine r_get X (ci := 3) (q0 := 0) (v := .ref (α 9)) inX3 rfl rfl 8 (by decide) rfl fl_X3_35 dX3_reap_73 ?_
            refine r_iload_n X (j := 4) dX3_reap_76 rfl rfl ?_
            refine r_iald X (q0 := 9) (t0 := 0) (kk := 9) rfl rfl dX3_reap_77 ?_
            refine r_sipush X (v := 255) dX3_reap_78 (by decide) ?_
            refine r_iand X dX3_reap_81 ?_
            refine r_iadd X dX3_reap_82 ?_
            exact r_ireturn X dX3_reap_83
          · refine r_iload_n X (j := 3) dX3_reap_84 rfl rfl ?_
            refine r_iload X (j := 0) dX3_reap_85 rfl ?_
            refine r_f (by decide) (r_if_eq X (tgt := 94) (k1 := none) dX3_reap_87 (by decide) (fun _ => r_none) (fun _ => ?_))
            refine r_iconst X (v := 1) dX3_reap_90 (by decide) ?_
            refine r_goto X (tgt := 95) dX3_reap_91 (by decide) ?_
            refine r_iadd X dX3_reap_95 ?_
            refine r_istore_n X (lv' := [(2, .int (x2 + 1)), (4, .int 1), (0, .ref (α 0)), (1, .int x1), (3, .int x3)]) dX3_reap_96 rfl (by decide) rfl ?_
            refine r_iinc X (j := 4) (v := (x3 + 1)) (lv' := [(3, .int (x3 + 1)), (2, .int (x2 + 1)), (4, .int 1), (0, .ref (α 0)), (1, .int x1)]) dX3_reap_97 rfl rfl (by decide) rfl ?_
            refine r_goto X (tgt := 15) dX3_reap_100 (by decide) ?_
            refine r_sub (lv' := [(0, .ref (α 0)), (1, .int x1), (2, .int (x2 + 1)), (3, .int (x3 + 1))]) [3, 4, 1, 0] rfl ?_
            exact ih x1 (x2 + 1) (x3 + 1) σ
        · refine r_iconst X (v := 0) dX3_reap_44 (by decide) ?_
          refine r_istore X (lv' := [(4, .int 0), (0, .ref (α 0)), (1, .int x1), (2, .int x2), (3, .int x3)]) dX3_reap_45 (by decide) rfl ?_
          refine r_iload X (j := 0) dX3_reap_47 rfl ?_
          refine r_t (by decide) (r_if_eq X (tgt := 84) (k2 := none) dX3_reap_49 (by decide) (fun _ => ?_) (fun _ => r_none))
          refine r_iload_n X (j := 3) dX3_reap_84 rfl rfl ?_
          refine r_iload X (j := 0) dX3_reap_85 rfl ?_
          refine r_t (by decide) (r_if_eq X (tgt := 94) (k2 := none) dX3_reap_87 (by decide) (fun _ => ?_) (fun _ => r_none))
          refine r_iconst X (v := 0) dX3_reap_94 (by decide) ?_
          refine r_iadd X dX3_reap_95 ?_
          refine r_istore_n X (lv' := [(2, .int (x2 + 0)), (4, .int 0), (0, .ref (α 0)), (1, .int x1), (3, .int x3)]) dX3_reap_96 rfl (by decide) rfl ?_
          refine r_iinc X (j := 4) (v := (x3 + 1)) (lv' := [(3, .int (x3 + 1)), (2, .int (x2 + 0)), (4, .int 0), (0, .ref (α 0)), (1, .int x1)]) dX3_reap_97 rfl rfl (by decide) rfl ?_
          refine r_goto X (tgt := 15) dX3_reap_100 (by decide) ?_
          refine r_sub (lv' := [(0, .ref (α 0)), (1, .int x1), (2, .int (x2 + 0)), (3, .int (x3 + 1))]) [3, 4, 1, 0] rfl ?_
          exact ih x1 (x2 + 0) (x3 + 1) σ
set_option maxRecDepth 100000 in
set_option maxHeartbeats 4000000 in
theorem c_X3_reap (l : Launch) (D : va_G) (cI cZ : ClassId) (α : Nat → Nat) (A : Nat → Prop) (hJ : ∀ σ, va_D A ((kwM cI cZ α) σ)) (x1 : Int32) (σ : KS) : Ct l D (tyA cI cZ) (kwM cI cZ α) A yX3_reap cX3_reap 5 (some .int) 3 vI [.ref (α 0), .int x1] σ (m_X3_reap x1 σ) := by
  refine Ct.of (own := RX3) hJ (by decide) rfl (Nat.le_of_ble_eq_true rfl) ?_
  intro p e s m args below meth c X
  refine r_sub (lv' := [(0, .ref (α 0)), (1, .int x1)]) [0, 1] rfl ?_
  unfold m_X3_reap
  refine r_aload_n X (j := 0) dX3_reap_0 rfl rfl ?_
  refine r_iload_n X (j := 1) dX3_reap_1 rfl rfl ?_
  refine r_callVi X (q0 := 0) (ci := 3) (n := 1) (As := [.int x1]) (st := []) (c_X3_isLive l D cI cZ α A hJ x1 σ) ml_X3_100 im_X3_isLive se_X3_isLive ii_X3 co_X3_isLive (by decide +kernel) ⟨Nat.le_of_ble_eq_true rfl, Nat.le_of_ble_eq_true rfl⟩ rfl rfl rfl rfl (Nat.le_of_ble_eq_true rfl) dX3_reap_2 (fun r_2 σ_2 hc_2 => ?_)
  refine r_if_ne X (tgt := 11) dX3_reap_5 (by decide) (fun _ => ?_) (fun _ => ?_)
  · refine r_bipush X (v := (-2)) dX3_reap_8 (by decide) ?_
    exact r_ireturn X dX3_reap_10
  · refine r_iconst X (v := 0) dX3_reap_11 (by decide) ?_
    refine r_istore_n X (lv' := [(2, .int 0), (0, .ref (α 0)), (1, .int x1)]) dX3_reap_12 rfl (by decide) rfl ?_
    refine r_iconst X (v := 0) dX3_reap_13 (by decide) ?_
    refine r_istore_n X (lv' := [(3, .int 0), (2, .int 0), (0, .ref (α 0)), (1, .int x1)]) dX3_reap_14 rfl (by decide) rfl ?_
    refine r_sub (lv' := [(0, .ref (α 0)), (1, .int x1), (2, .int 0), (3, .int 0)]) [2, 3, 1, 0] rfl ?_
    exact cl_X3_reap_15 l D cI cZ α A hJ X FU x1 0 0 σ_2
set_option maxRecDepth 100000 in
set_option maxHeartbeats 4000000 in
theorem c_X3_spawn (l : Launch) (D : va_G) (cI cZ : ClassId) (α : Nat → Nat) (A : Nat → Prop) (hJ : ∀ σ, va_D A ((kwM cI cZ α) σ)) (σ : KS) : Ct l D (tyA cI cZ) (kwM cI cZ α) A yX3_spawn cX3_spawn 3 (some .int) 3 vI [.ref (α 0)] σ (m_X3_spawn σ) := by
  refine Ct.of (own := RX3) hJ (by decide) rfl (Nat.le_of_ble_eq_true rfl) ?_
  intro p e s m args below meth c X
  refine r_sub (lv' := [(0, .ref (α 0))]) [0] rfl ?_
  unfold m_X3_spawn
  refine r_aload_n X (j := 0) dX3_spawn_0 rfl rfl ?_
  refine r_callVi X (q0 := 0) (ci := 3) (n := 0) (As := []) (st := []) (c_X3_unusedNumber l D cI cZ α A hJ σ) ml_X3_83 im_X3_unusedNumber se_X3_unusedNumber ii_X3 co_X3_unusedNumber (by decide +kernel) ⟨Nat.le_of_ble_eq_true rfl, Nat.le_of_ble_eq_true rfl⟩ rfl rfl rfl rfl (Nat.le_of_ble_eq_true rfl) dX3_spawn_1 (fun r_1 σ_1 hc_1 => ?_)
  refine r_istore_n X (lv' := [(1, .int r_1), (0, .ref (α 0))]) dX3_spawn_4 rfl (by decide) rfl ?_
  refine r_iload_n X (j := 0) dX3_spawn_5 rfl rfl ?_
  refine r_if_ge X (tgt := 12) dX3_spawn_6 (by decide) (fun _ => ?_) (fun _ => ?_)
  · refine r_aload_n X (j := 1) dX3_spawn_12 rfl rfl ?_
    refine r_callVv X (q0 := 0) (ci := 3) (n := 0) (As := []) (st := []) (c_X3_layAside l D cI cZ α A hJ σ_1) ml_X3_87 im_X3_layAside se_X3_layAside ii_X3 co_X3_layAside (by decide +kernel) ⟨Nat.le_of_ble_eq_true rfl, Nat.le_of_ble_eq_true rfl⟩ rfl rfl rfl rfl (Nat.le_of_ble_eq_true rfl) dX3_spawn_13 (fun r_13 σ_13 hc_13 => ?_)
    refine r_aload_n X (j := 1) dX3_spawn_16 rfl rfl ?_
    refine r_iconst X (v := 1) dX3_spawn_17 (by decide) ?_
    refine r_callVi X (q0 := 0) (ci := 3) (n := 1) (As := [.int 1]) (st := []) (c_X3_takeSmall l D cI cZ α A hJ 1 σ_13) ml_X3_90 im_X3_takeSmall se_X3_takeSmall ii_X3 co_X3_takeSmall (by decide +kernel) ⟨Nat.le_of_ble_eq_true rfl, Nat.le_of_ble_eq_true rfl⟩ rfl rfl rfl rfl (Nat.le_of_ble_eq_true rfl) dX3_spawn_18 (fun r_18 σ_18 hc_18 => ?_)
    refine r_istore_n X (lv' := [(2, .int r_18), (1, .int r_1), (0, .ref (α 0))]) dX3_spawn_21 rfl (by decide) rfl ?_
    refine r_iload_n X (j := 0) dX3_spawn_22 rfl rfl ?_
    refine r_if_ge X (tgt := 31) dX3_spawn_23 (by decide) (fun _ => ?_) (fun _ => ?_)
    · refine r_aload_n X (j := 2) dX3_spawn_31 rfl rfl ?_
      refine r_iload_n X (j := 1) dX3_spawn_32 rfl rfl ?_
      refine r_iload_n X (j := 0) dX3_spawn_33 rfl rfl ?_
      refine r_iconst X (v := (-1)) dX3_spawn_34 (by decide) ?_
      refine r_callVv X (q0 := 0) (ci := 3) (n := 3) (As := [.int r_1, .int r_18, .int (-1)]) (st := []) (c_X3_begin l D cI cZ α A hJ r_1 r_18 (-1) σ_18) ml_X3_96 im_X3_begin se_X3_begin ii_X3 co_X3_begin (by decide +kernel) ⟨Nat.le_of_ble_eq_true rfl, Nat.le_of_ble_eq_true rfl⟩ rfl rfl rfl rfl (Nat.le_of_ble_eq_true rfl) dX3_spawn_35 (fun r_35 σ_35 hc_35 => ?_)
      refine r_iload_n X (j := 1) dX3_spawn_38 rfl rfl ?_
      exact r_ireturn X dX3_spawn_39
    · refine r_aload_n X (j := 2) dX3_spawn_26 rfl rfl ?_
      refine r_callVi X (q0 := 0) (ci := 3) (n := 0) (As := []) (st := []) (c_X3_fail l D cI cZ α A hJ σ_18) ml_X3_93 im_X3_fail se_X3_fail ii_X3 co_X3_fail (by decide +kernel) ⟨Nat.le_of_ble_eq_true rfl, Nat.le_of_ble_eq_true rfl⟩ rfl rfl rfl rfl (Nat.le_of_ble_eq_true rfl) dX3_spawn_27 (fun r_27 σ_27 hc_27 => ?_)
      exact r_ireturn X dX3_spawn_30
  · refine r_bipush X (v := (-4)) dX3_spawn_9 (by decide) ?_
    exact r_ireturn X dX3_spawn_11
