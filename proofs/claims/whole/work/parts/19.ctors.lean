/-- the first i places -1, the rest 0 -/
def flm (i : Nat) : Nat → Int32 := fun j => if j < i then -1 else 0
theorem flm_0 : flm 0 = fun _ => 0 := by funext j; simp [flm]
theorem flm_s {i : Nat} (h : i < 2 ^ 31) : upd (flm i) (nI i).toNatClampNeg (-1) = flm (i + 1) := by
  rw [nI_clamp h]
  funext j
  unfold upd flm
  by_cases h1 : j = i
  · subst h1; simp
  · simp only [h1, if_false]
    by_cases h2 : j < i
    · rw [if_pos h2, if_pos (by omega)]
    · rw [if_neg h2, if_neg (by omega)]
theorem upd_00 (k : Nat) : upd (fun _ => (0 : Int32)) k 0 = fun _ => 0 := by funext j; unfold upd; split <;> rfl
theorem k_eq {p : Program} {l : Launch} {e : Env} {R : Room} {s : State} {m : MethodId} {args : Array Value} {below : List Frame} {meth : Method} {c : Code} {nL : Nat} {D : va_G} {A : Nat → Prop} {Q : State → Prop} {pc : Nat} {lv : List (Nat × Value)} {st : List Value} {ws : va_W} {cells slots : Nat} {ws' : va_W} (h : ws = ws') (h2 : Cc p l e R s m args below meth c nL D A Q pc lv st ws' cells slots) : Cc p l e R s m args below meth c nL D A Q pc lv st ws cells slots := h ▸ h2
def sX0 : KS := (fun k => if k = 4 then upd (flm 128) 0 7 else if k = 5 then upd (fun _ => 0) 7 1 else if k = 10 then flm 128 else if k = 12 then flm 16 else fun _ => 0, fun _ => 0)
def sM0 : KS := (fun k => if k = 1 then upd (fun _ => 0) 896 1 else if k = 5 then flm 128 else fun _ => 0, fun _ => 0)
set_option maxRecDepth 100000 in
set_option maxHeartbeats 4000000 in
theorem cl_X0_init_15 (l : Launch) (D : va_G) (cI cZ : ClassId) {p : Program} {e : Env} {R : Room} {s : State} {m : MethodId} {args : Array Value} {below : List Frame} {meth : Method} {c : Code} {A : Nat → Prop} {Q : State → Prop} {cells slots : Nat} (X : CI p s m args meth c cX0_init 2 RX0 D cI cZ A true) (h0 q1 : Nat)
    (hx : Cc p l e R s m args below meth c 2 D A Q 35 [(0, .ref h0), (1, .int (nI 128))] [] [(h0, .inr (0, [.ref q1, .null])), (q1, .inl (cI, 128, .inl (flm 128)))] cells slots) : ∀ (n i : Nat), i ≤ 128 → 128 ≤ i + n → Cc p l e R s m args below meth c 2 D A Q 15 [(0, .ref h0), (1, .int (nI i))] [] [(h0, .inr (0, [.ref q1, .null])), (q1, .inl (cI, 128, .inl (flm i)))] cells slots := by
  intro n
  induction n with
  | zero =>
    intro i h1 h2
    have e : i = 128 := by omega
    subst e
    refine k_iload_n X (j := 1) dX0_init_15 rfl rfl ?_
    refine k_sipush X (v := 128) dX0_init_16 (by decide) ?_
    refine k_icmp_ge X (tgt := 35) dX0_init_19 (by decide) (fun hge => ?_) (fun hlt => ?_)
    · exact hx
    · exact absurd (nI_le (a := 128) (b := 128) (by omega) (by decide)) hlt
  | succ n ih =>
    intro i h1 h2
    refine k_iload_n X (j := 1) dX0_init_15 rfl rfl ?_
    refine k_sipush X (v := 128) dX0_init_16 (by decide) ?_
    refine k_icmp_ge X (tgt := 35) dX0_init_19 (by decide) (fun hge => ?_) (fun hlt => ?_)
    · have e : i = 128 := by
        have := (nI_leI (a := 128) (b := i) (by decide) (by omega)).mp hge
        omega
      subst e
      exact hx
    · have hi : i < 128 := by
        rcases Nat.lt_or_ge i 128 with q | q
        · exact q
        · exact absurd (nI_le (a := 128) (b := i) q (by omega)) hlt
      refine k_aload_n X (j := 0) dX0_init_22 rfl rfl ?_
      refine k_get X (ci := 0) (q0 := 0) (v := .ref q1) inX0 rfl rfl 0 (by decide) rfl fl_X0_9 dX0_init_23 ?_
      refine k_iload_n X (j := 1) dX0_init_26 rfl rfl ?_
      refine k_iconst X (v := (-1)) dX0_init_27 (by decide) ?_
      refine k_iast X (q0 := 1) (ws' := [(h0, .inr (0, [.ref q1, .null])), (q1, .inl (cI, 128, .inl (flm (i + 1))))]) rfl (vp_in_nI hi (by decide)) (by rw [flm_s (by omega)]; rfl) dX0_init_28 ?_
      refine k_iinc X (j := 1) (v := nI (i + 1)) (lv' := [(1, .int (nI (i + 1))), (0, .ref h0)]) dX0_init_29 rfl (nI_1 i) (by decide) rfl ?_
      refine k_goto X (tgt := 15) dX0_init_32 (by decide) ?_
      refine k_sub (lv' := [(0, .ref h0), (1, .int (nI (i + 1)))]) [1, 0] rfl ?_
      exact ih (i + 1) (by omega) (by omega)

set_option maxRecDepth 100000 in
set_option maxHeartbeats 4000000 in
theorem c_X0_init (l : Launch) (D : va_G) (cI cZ : ClassId) (h0 : Nat) (sz : Nat) : Met l yX0_init (wsM yX0_init cX0_init 2 none) { frames := 1, cells := 2, slots := 136, locals := 30 } (kCp D cI cZ [.ref h0] sz [(h0, .inr (0, [.null, .null]))]) (kCq D (S := Nat × Nat) (fun u => [(h0, .inr (0, [.ref u.1, .ref u.2])), (u.1, .inl (cI, 128, .inl (upd (flm 128) 0 7))), (u.2, .inl (cI, 8, .inl (upd (fun _ => 0) 7 1)))]) sz [(h0, .inr (0, [.null, .null]))]) 2 136 (va_A [(h0, .inr (0, [.null, .null]))] sz) := by
  refine Cc.met (own := RX0) (by decide) rfl rfl (Nat.le_of_ble_eq_true rfl) ?_
  intro p e s m args below meth c X hsz hN
  refine k_sub (lv' := [(0, .ref h0)]) [0] rfl ?_
  refine k_aload_n X (j := 0) dX0_init_0 rfl rfl ?_
  refine k_obj X ml_X0_3 dX0_init_1 (Nat.le_of_ble_eq_true rfl) (Nat.le_of_ble_eq_true rfl) ?_
  refine k_aload_n X (j := 0) dX0_init_4 rfl rfl ?_
  refine k_sipush X (v := 128) dX0_init_5 (by decide) ?_
  refine k_newI X (N := 128) dX0_init_8 (by decide) (by decide) (by decide) (Nat.le_of_ble_eq_true rfl) (Nat.le_of_ble_eq_true rfl) (fun q8 => ?_)
  refine k_eq (ws' := [(h0, .inr (0, [.null, .null])), (q8, .inl (cI, 128, .inl (fun _ => 0)))]) rfl ?_
  refine k_putF X (ci := 0) (q0 := 0) (ty := .array .int) (ws' := [(h0, .inr (0, [.ref q8, .null])), (q8, .inl (cI, 128, .inl (fun _ => 0)))]) inX0 rfl tyX0_ok nmX0 rfl 0 (by decide) rfl fl_X0_9 rfl rfl (by decide +kernel) rfl rfl (Nat.le_of_ble_eq_true rfl) dX0_init_10 ?_
  refine k_iconst X (v := 0) dX0_init_13 (by decide) ?_
  refine k_istore_n X (lv' := [(1, .int 0), (0, .ref h0)]) dX0_init_14 rfl (by decide) rfl ?_
  refine k_eq (ws' := [(h0, .inr (0, [.ref q8, .null])), (q8, .inl (cI, 128, .inl (flm 0)))]) (by rw [flm_0]) ?_
  refine k_sub (lv' := [(0, .ref h0), (1, .int (nI 0))]) [1, 0] rfl ?_
  refine cl_X0_init_15 l D cI cZ X h0 q8 ?_ 128 0 (by decide) (by decide)
  refine k_aload_n X (j := 0) dX0_init_35 rfl rfl ?_
  refine k_bipush X (v := 8) dX0_init_36 (by decide) ?_
  refine k_newI X (N := 8) dX0_init_38 (by decide) (by decide) (by decide) (Nat.le_of_ble_eq_true rfl) (Nat.le_of_ble_eq_true rfl) (fun q38 => ?_)
  refine k_eq (ws' := [(h0, .inr (0, [.ref q8, .null])), (q8, .inl (cI, 128, .inl (flm 128))), (q38, .inl (cI, 8, .inl (fun _ => 0)))]) rfl ?_
  refine k_putF X (ci := 0) (q0 := 0) (ty := .array .int) (ws' := [(h0, .inr (0, [.ref q8, .ref q38])), (q8, .inl (cI, 128, .inl (flm 128))), (q38, .inl (cI, 8, .inl (fun _ => 0)))]) inX0 rfl tyX0_ok nmX0 rfl 1 (by decide) rfl fl_X0_15 rfl rfl (by decide +kernel) rfl rfl (Nat.le_of_ble_eq_true rfl) dX0_init_40 ?_
  refine k_aload_n X (j := 0) dX0_init_43 rfl rfl ?_
  refine k_get X (ci := 0) (q0 := 0) (v := .ref q8) inX0 rfl rfl 0 (by decide) rfl fl_X0_9 dX0_init_44 ?_
  refine k_iconst X (v := 0) dX0_init_47 (by decide) ?_
  refine k_bipush X (v := 7) dX0_init_48 (by decide) ?_
  refine k_iast X (q0 := 1) (ws' := [(h0, .inr (0, [.ref q8, .ref q38])), (q8, .inl (cI, 128, .inl (upd (flm 128) 0 7))), (q38, .inl (cI, 8, .inl (fun _ => 0)))]) rfl (vp_in_iff.mpr (by decide)) rfl dX0_init_50 ?_
  refine k_aload_n X (j := 0) dX0_init_51 rfl rfl ?_
  refine k_get X (ci := 0) (q0 := 0) (v := .ref q38) inX0 rfl rfl 1 (by decide) rfl fl_X0_15 dX0_init_52 ?_
  refine k_bipush X (v := 7) dX0_init_55 (by decide) ?_
  refine k_iconst X (v := 1) dX0_init_57 (by decide) ?_
  refine k_iast X (q0 := 2) (ws' := [(h0, .inr (0, [.ref q8, .ref q38])), (q8, .inl (cI, 128, .inl (upd (flm 128) 0 7))), (q38, .inl (cI, 8, .inl (upd (fun _ => 0) 7 1)))]) rfl (vp_in_iff.mpr (by decide)) rfl dX0_init_58 ?_
  exact k_ret X rfl (q8, q38) rfl dX0_init_59
set_option maxRecDepth 100000 in
set_option maxHeartbeats 4000000 in
theorem c_X1_init (l : Launch) (D : va_G) (cI cZ : ClassId) (h0 b0 : Nat) (sz : Nat) : Met l yX1_init (wsM yX1_init cX1_init 2 none) { frames := 1, cells := 1, slots := 128, locals := 30 } (kCp D cI cZ [.ref h0, .ref b0] sz [(h0, .inr (1, [.null, .null]))]) (kCq D (S := Nat) (fun u => [(h0, .inr (1, [.ref b0, .ref u])), (u, .inl (cI, 128, .inl (fun _ => 0)))]) sz [(h0, .inr (1, [.null, .null]))]) 1 128 (va_A [(h0, .inr (1, [.null, .null]))] sz) := by
  refine Cc.met (own := RX1) (by decide) rfl rfl (Nat.le_of_ble_eq_true rfl) ?_
  intro p e s m args below meth c X hsz hN
  refine k_sub (lv' := [(0, .ref h0), (1, .ref b0)]) [0, 1] rfl ?_
  refine k_aload_n X (j := 0) dX1_init_0 rfl rfl ?_
  refine k_obj X ml_X1_3 dX1_init_1 (Nat.le_of_ble_eq_true rfl) (Nat.le_of_ble_eq_true rfl) ?_
  refine k_aload_n X (j := 0) dX1_init_4 rfl rfl ?_
  refine k_aload_n X (j := 1) dX1_init_5 rfl rfl ?_
  refine k_putF X (ci := 1) (q0 := 0) (ty := .object "PageKernel$Blocks") (ws' := [(h0, .inr (1, [.ref b0, .null]))]) inX1 rfl tyX1_ok nmX1 rfl 0 (by decide) rfl fl_X1_9 rfl rfl (by decide +kernel) rfl rfl (Nat.le_of_ble_eq_true rfl) dX1_init_6 ?_
  refine k_aload_n X (j := 0) dX1_init_9 rfl rfl ?_
  refine k_sipush X (v := 128) dX1_init_10 (by decide) ?_
  refine k_newI X (N := 128) dX1_init_13 (by decide) (by decide) (by decide) (Nat.le_of_ble_eq_true rfl) (Nat.le_of_ble_eq_true rfl) (fun q13 => ?_)
  refine k_eq (ws' := [(h0, .inr (1, [.ref b0, .null])), (q13, .inl (cI, 128, .inl (fun _ => 0)))]) rfl ?_
  refine k_putF X (ci := 1) (q0 := 0) (ty := .array .int) (ws' := [(h0, .inr (1, [.ref b0, .ref q13])), (q13, .inl (cI, 128, .inl (fun _ => 0)))]) inX1 rfl tyX1_ok nmX1 rfl 1 (by decide) rfl fl_X1_15 rfl rfl (by decide +kernel) rfl rfl (Nat.le_of_ble_eq_true rfl) dX1_init_15 ?_
  exact k_ret X rfl q13 rfl dX1_init_18
set_option maxRecDepth 100000 in
set_option maxHeartbeats 4000000 in
theorem cl_X2_init_74 (l : Launch) (D : va_G) (cI cZ : ClassId) {p : Program} {e : Env} {R : Room} {s : State} {m : MethodId} {args : Array Value} {below : List Frame} {meth : Method} {c : Code} {A : Nat → Prop} {Q : State → Prop} {cells slots : Nat} (X : CI p s m args meth c cX2_init 2 RX2 D cI cZ A true) (h0 q5 u9_1 u9_2 q16 u24 q31 u39 q49 q58 q67 : Nat)
    (hx : Cc p l e R s m args below meth c 2 D A Q 94 [(0, .ref h0), (1, .int (nI 128))] [] [(h0, .inr (2, [.ref q5, .ref q16, .ref q31, .ref q49, .ref q58, .ref q67, .null, .null, .null, .null, .null, .null, .int 0, .int 0, .int 0, .int 0])), (q5, .inr (0, [.ref u9_1, .ref u9_2])), (u9_1, .inl (cI, 128, .inl (upd (flm 128) 0 7))), (u9_2, .inl (cI, 8, .inl (upd (fun _ => 0) 7 1))), (q16, .inr (1, [.ref q5, .ref u24])), (u24, .inl (cI, 128, .inl (fun _ => 0))), (q31, .inr (1, [.ref q5, .ref u39])), (u39, .inl (cI, 128, .inl (fun _ => 0))), (q49, .inl (cI, 8192, .inl (fun _ => 0))), (q58, .inl (cI, 128, .inl (fun _ => 0))), (q67, .inl (cI, 128, .inl (flm 128)))] cells slots) : ∀ (n i : Nat), i ≤ 128 → 128 ≤ i + n → Cc p l e R s m args below meth c 2 D A Q 74 [(0, .ref h0), (1, .int (nI i))] [] [(h0, .inr (2, [.ref q5, .ref q16, .ref q31, .ref q49, .ref q58, .ref q67, .null, .null, .null, .null, .null, .null, .int 0, .int 0, .int 0, .int 0])), (q5, .inr (0, [.ref u9_1, .ref u9_2])), (u9_1, .inl (cI, 128, .inl (upd (flm 128) 0 7))), (u9_2, .inl (cI, 8, .inl (upd (fun _ => 0) 7 1))), (q16, .inr (1, [.ref q5, .ref u24])), (u24, .inl (cI, 128, .inl (fun _ => 0))), (q31, .inr (1, [.ref q5, .ref u39])), (u39, .inl (cI, 128, .inl (fun _ => 0))), (q49, .inl (cI, 8192, .inl (fun _ => 0))), (q58, .inl (cI, 128, .inl (fun _ => 0))), (q67, .inl (cI, 128, .inl (flm i)))] cells slots := by
  intro n
  induction n with
  | zero =>
    intro i h1 h2
    have e : i = 128 := by omega
    subst e
    refine k_iload_n X (j := 1) dX2_init_74 rfl rfl ?_
    refine k_sipush X (v := 128) dX2_init_75 (by decide) ?_
    refine k_icmp_ge X (tgt := 94) dX2_init_78 (by decide) (fun hge => ?_) (fun hlt => ?_)
    · exact hx
    · exact absurd (nI_le (a := 128) (b := 128) (by omega) (by decide)) hlt
  | succ n ih =>
    intro i h1 h2
    refine k_iload_n X (j := 1) dX2_init_74 rfl rfl ?_
    refine k_sipush X (v := 128) dX2_init_75 (by decide) ?_
    refine k_icmp_ge X (tgt := 94) dX2_init_78 (by decide) (fun hge => ?_) (fun hlt => ?_)
    · have e : i = 128 := by
        have := (nI_leI (a := 128) (b := i) (by decide) (by omega)).mp hge
        omega
      subst e
      exact hx
    · have hi : i < 128 := by
        rcases Nat.lt_or_ge i 128 with q | q
        · exact q
        · exact absurd (nI_le (a := 128) (b := i) q (by omega)) hlt
      refine k_aload_n X (j := 0) dX2_init_81 rfl rfl ?_
      refine k_get X (ci := 2) (q0 := 0) (v := .ref q67) inX2 rfl rfl 5 (by decide) rfl fl_X2_35 dX2_init_82 ?_
      refine k_iload_n X (j := 1) dX2_init_85 rfl rfl ?_
      refine k_iconst X (v := (-1)) dX2_init_86 (by decide) ?_
      refine k_iast X (q0 := 10) (ws' := [(h0, .inr (2, [.ref q5, .ref q16, .ref q31, .ref q49, .ref q58, .ref q67, .null, .null, .null, .null, .null, .null, .int 0, .int 0, .int 0, .int 0])), (q5, .inr (0, [.ref u9_1, .ref u9_2])), (u9_1, .inl (cI, 128, .inl (upd (flm 128) 0 7))), (u9_2, .inl (cI, 8, .inl (upd (fun _ => 0) 7 1))), (q16, .inr (1, [.ref q5, .ref u24])), (u24, .inl (cI, 128, .inl (fun _ => 0))), (q31, .inr (1, [.ref q5, .ref u39])), (u39, .inl (cI, 128, .inl (fun _ => 0))), (q49, .inl (cI, 8192, .inl (fun _ => 0))), (q58, .inl (cI, 128, .inl (fun _ => 0))), (q67, .inl (cI, 128, .inl (flm (i + 1))))]) rfl (vp_in_nI hi (by decide)) (by rw [flm_s (by omega)]; rfl) dX2_init_87 ?_
      refine k_iinc X (j := 1) (v := nI (i + 1)) (lv' := [(1, .int (nI (i + 1))), (0, .ref h0)]) dX2_init_88 rfl (nI_1 i) (by decide) rfl ?_
      refine k_goto X (tgt := 74) dX2_init_91 (by decide) ?_
      refine k_sub (lv' := [(0, .ref h0), (1, .int (nI (i + 1)))]) [1, 0] rfl ?_
      exact ih (i + 1) (by omega) (by omega)

set_option maxRecDepth 100000 in
set_option maxHeartbeats 4000000 in
theorem cl_X2_init_144 (l : Launch) (D : va_G) (cI cZ : ClassId) {p : Program} {e : Env} {R : Room} {s : State} {m : MethodId} {args : Array Value} {below : List Frame} {meth : Method} {c : Code} {A : Nat → Prop} {Q : State → Prop} {cells slots : Nat} (X : CI p s m args meth c cX2_init 2 RX2 D cI cZ A true) (h0 q5 u9_1 u9_2 q16 u24 q31 u39 q49 q58 q67 q97 q105 q113 q121 q129 q137 : Nat)
    (hx : Cc p l e R s m args below meth c 2 D A Q 170 [(0, .ref h0), (1, .int (nI 16))] [] [(h0, .inr (2, [.ref q5, .ref q16, .ref q31, .ref q49, .ref q58, .ref q67, .ref q97, .ref q105, .ref q113, .ref q121, .ref q129, .ref q137, .int 0, .int 0, .int 0, .int 0])), (q5, .inr (0, [.ref u9_1, .ref u9_2])), (u9_1, .inl (cI, 128, .inl (upd (flm 128) 0 7))), (u9_2, .inl (cI, 8, .inl (upd (fun _ => 0) 7 1))), (q16, .inr (1, [.ref q5, .ref u24])), (u24, .inl (cI, 128, .inl (fun _ => 0))), (q31, .inr (1, [.ref q5, .ref u39])), (u39, .inl (cI, 128, .inl (fun _ => 0))), (q49, .inl (cI, 8192, .inl (fun _ => 0))), (q58, .inl (cI, 128, .inl (fun _ => 0))), (q67, .inl (cI, 128, .inl (flm 128))), (q97, .inl (cI, 16, .inl (fun _ => 0))), (q105, .inl (cI, 16, .inl (flm 16))), (q113, .inl (cI, 16, .inl (fun _ => 0))), (q121, .inl (cI, 16, .inl (fun _ => 0))), (q129, .inl (cI, 16, .inl (fun _ => 0))), (q137, .inl (cI, 16, .inl (fun _ => 0)))] cells slots) : ∀ (n i : Nat), i ≤ 16 → 16 ≤ i + n → Cc p l e R s m args below meth c 2 D A Q 144 [(0, .ref h0), (1, .int (nI i))] [] [(h0, .inr (2, [.ref q5, .ref q16, .ref q31, .ref q49, .ref q58, .ref q67, .ref q97, .ref q105, .ref q113, .ref q121, .ref q129, .ref q137, .int 0, .int 0, .int 0, .int 0])), (q5, .inr (0, [.ref u9_1, .ref u9_2])), (u9_1, .inl (cI, 128, .inl (upd (flm 128) 0 7))), (u9_2, .inl (cI, 8, .inl (upd (fun _ => 0) 7 1))), (q16, .inr (1, [.ref q5, .ref u24])), (u24, .inl (cI, 128, .inl (fun _ => 0))), (q31, .inr (1, [.ref q5, .ref u39])), (u39, .inl (cI, 128, .inl (fun _ => 0))), (q49, .inl (cI, 8192, .inl (fun _ => 0))), (q58, .inl (cI, 128, .inl (fun _ => 0))), (q67, .inl (cI, 128, .inl (flm 128))), (q97, .inl (cI, 16, .inl (fun _ => 0))), (q105, .inl (cI, 16, .inl (flm i))), (q113, .inl (cI, 16, .inl (fun _ => 0))), (q121, .inl (cI, 16, .inl (fun _ => 0))), (q129, .inl (cI, 16, .inl (fun _ => 0))), (q137, .inl (cI, 16, .inl (fun _ => 0)))] cells slots := by
  intro n
  induction n with
  | zero =>
    intro i h1 h2
    have e : i = 16 := by omega
    subst e
    refine k_iload_n X (j := 1) dX2_init_144 rfl rfl ?_
    refine k_bipush X (v := 16) dX2_init_145 (by decide) ?_
    refine k_icmp_ge X (tgt := 170) dX2_init_147 (by decide) (fun hge => ?_) (fun hlt => ?_)
    · exact hx
    · exact absurd (nI_le (a := 16) (b := 16) (by omega) (by decide)) hlt
  | succ n ih =>
    intro i h1 h2
    refine k_iload_n X (j := 1) dX2_init_144 rfl rfl ?_
    refine k_bipush X (v := 16) dX2_init_145 (by decide) ?_
    refine k_icmp_ge X (tgt := 170) dX2_init_147 (by decide) (fun hge => ?_) (fun hlt => ?_)
    · have e : i = 16 := by
        have := (nI_leI (a := 16) (b := i) (by decide) (by omega)).mp hge
        omega
      subst e
      exact hx
    · have hi : i < 16 := by
        rcases Nat.lt_or_ge i 16 with q | q
        · exact q
        · exact absurd (nI_le (a := 16) (b := i) q (by omega)) hlt
      refine k_aload_n X (j := 0) dX2_init_150 rfl rfl ?_
      refine k_get X (ci := 2) (q0 := 0) (v := .ref q97) inX2 rfl rfl 6 (by decide) rfl fl_X2_38 dX2_init_151 ?_
      refine k_iload_n X (j := 1) dX2_init_154 rfl rfl ?_
      refine k_iconst X (v := 0) dX2_init_155 (by decide) ?_
      refine k_iast X (q0 := 11) (ws' := [(h0, .inr (2, [.ref q5, .ref q16, .ref q31, .ref q49, .ref q58, .ref q67, .ref q97, .ref q105, .ref q113, .ref q121, .ref q129, .ref q137, .int 0, .int 0, .int 0, .int 0])), (q5, .inr (0, [.ref u9_1, .ref u9_2])), (u9_1, .inl (cI, 128, .inl (upd (flm 128) 0 7))), (u9_2, .inl (cI, 8, .inl (upd (fun _ => 0) 7 1))), (q16, .inr (1, [.ref q5, .ref u24])), (u24, .inl (cI, 128, .inl (fun _ => 0))), (q31, .inr (1, [.ref q5, .ref u39])), (u39, .inl (cI, 128, .inl (fun _ => 0))), (q49, .inl (cI, 8192, .inl (fun _ => 0))), (q58, .inl (cI, 128, .inl (fun _ => 0))), (q67, .inl (cI, 128, .inl (flm 128))), (q97, .inl (cI, 16, .inl (fun _ => 0))), (q105, .inl (cI, 16, .inl (flm i))), (q113, .inl (cI, 16, .inl (fun _ => 0))), (q121, .inl (cI, 16, .inl (fun _ => 0))), (q129, .inl (cI, 16, .inl (fun _ => 0))), (q137, .inl (cI, 16, .inl (fun _ => 0)))]) rfl (vp_in_nI hi (by decide)) (by rw [upd_00]; rfl) dX2_init_156 ?_
      refine k_aload_n X (j := 0) dX2_init_157 rfl rfl ?_
      refine k_get X (ci := 2) (q0 := 0) (v := .ref q105) inX2 rfl rfl 7 (by decide) rfl fl_X2_41 dX2_init_158 ?_
      refine k_iload_n X (j := 1) dX2_init_161 rfl rfl ?_
      refine k_iconst X (v := (-1)) dX2_init_162 (by decide) ?_
      refine k_iast X (q0 := 12) (ws' := [(h0, .inr (2, [.ref q5, .ref q16, .ref q31, .ref q49, .ref q58, .ref q67, .ref q97, .ref q105, .ref q113, .ref q121, .ref q129, .ref q137, .int 0, .int 0, .int 0, .int 0])), (q5, .inr (0, [.ref u9_1, .ref u9_2])), (u9_1, .inl (cI, 128, .inl (upd (flm 128) 0 7))), (u9_2, .inl (cI, 8, .inl (upd (fun _ => 0) 7 1))), (q16, .inr (1, [.ref q5, .ref u24])), (u24, .inl (cI, 128, .inl (fun _ => 0))), (q31, .inr (1, [.ref q5, .ref u39])), (u39, .inl (cI, 128, .inl (fun _ => 0))), (q49, .inl (cI, 8192, .inl (fun _ => 0))), (q58, .inl (cI, 128, .inl (fun _ => 0))), (q67, .inl (cI, 128, .inl (flm 128))), (q97, .inl (cI, 16, .inl (fun _ => 0))), (q105, .inl (cI, 16, .inl (flm (i + 1)))), (q113, .inl (cI, 16, .inl (fun _ => 0))), (q121, .inl (cI, 16, .inl (fun _ => 0))), (q129, .inl (cI, 16, .inl (fun _ => 0))), (q137, .inl (cI, 16, .inl (fun _ => 0)))]) rfl (vp_in_nI hi (by decide)) (by rw [flm_s (by omega)]; rfl) dX2_init_163 ?_
      refine k_iinc X (j := 1) (v := nI (i + 1)) (lv' := [(1, .int (nI (i + 1))), (0, .ref h0)]) dX2_init_164 rfl (nI_1 i) (by decide) rfl ?_
      refine k_goto X (tgt := 144) dX2_init_167 (by decide) ?_
      refine k_sub (lv' := [(0, .ref h0), (1, .int (nI (i + 1)))]) [1, 0] rfl ?_
      exact ih (i + 1) (by omega) (by omega)

set_option maxRecDepth 100000 in
set_option maxHeartbeats 4000000 in
theorem c_X2_init (l : Launch) (D : va_G) (cI cZ : ClassId) (h0 : Nat) (sz : Nat) : Met l yX2_init (wsM yX2_init cX2_init 2 none) { frames := 2, cells := 16, slots := 8942, locals := 60 } (kCp D cI cZ [.ref h0] sz [(h0, .inr (2, [.null, .null, .null, .null, .null, .null, .null, .null, .null, .null, .null, .null, .int 0, .int 0, .int 0, .int 0]))]) (kCq D (S := Nat → Nat) (fun u => kwX cI (va_up u 0 h0) sX0) sz [(h0, .inr (2, [.null, .null, .null, .null, .null, .null, .null, .null, .null, .null, .null, .null, .int 0, .int 0, .int 0, .int 0]))]) 16 8942 (va_A [(h0, .inr (2, [.null, .null, .null, .null, .null, .null, .null, .null, .null, .null, .null, .null, .int 0, .int 0, .int 0, .int 0]))] sz) := by
  refine Cc.met (own := RX2) (by decide) rfl rfl (Nat.le_of_ble_eq_true rfl) ?_
  intro p e s m args below meth c X hsz hN
  refine k_sub (lv' := [(0, .ref h0)]) [0] rfl ?_
  refine k_aload_n X (j := 0) dX2_init_0 rfl rfl ?_
  refine k_obj X ml_X2_1 dX2_init_1 (Nat.le_of_ble_eq_true rfl) (Nat.le_of_ble_eq_true rfl) ?_
  refine k_aload_n X (j := 0) dX2_init_4 rfl rfl ?_
  refine k_new X (ci := 0) (fs := [.null, .null]) inX0 rfl tyX0_ok cl_X2_7 ia_X0 ii_X0 (fun j hj => by rcases (show j = 0 ∨ j = 1 by omega) with rfl | rfl <;> rfl) (Nat.le_of_ble_eq_true rfl) (Nat.le_of_ble_eq_true rfl) dX2_init_5 (fun q5 => ?_)
  refine k_eq (ws' := [(h0, .inr (2, [.null, .null, .null, .null, .null, .null, .null, .null, .null, .null, .null, .null, .int 0, .int 0, .int 0, .int 0])), (q5, .inr (0, [.null, .null]))]) rfl ?_
  refine k_dup X dX2_init_8 rfl ?_
  refine k_ctor X hN (n := 0) (wr := [(h0, .inr (2, [.null, .null, .null, .null, .null, .null, .null, .null, .null, .null, .null, .null, .int 0, .int 0, .int 0, .int 0]))]) (As := []) (st := [.ref q5, .ref h0]) (fun sz => c_X0_init l D cI cZ q5 sz) ml_X2_9 im_X0_init ii_X0 co_X0_init rfl rfl rfl (by decide +kernel) ⟨(Nat.le_of_ble_eq_true rfl), (Nat.le_of_ble_eq_true rfl)⟩ [1] [0] rfl rfl (by decide) (by decide) (by decide) rfl rfl (Nat.le_of_ble_eq_true rfl) dX2_init_9 ⟨(Nat.le_of_ble_eq_true rfl), (Nat.le_of_ble_eq_true rfl)⟩ (fun u9 => ?_)
  refine k_eq (ws' := [(h0, .inr (2, [.null, .null, .null, .null, .null, .null, .null, .null, .null, .null, .null, .null, .int 0, .int 0, .int 0, .int 0])), (q5, .inr (0, [.ref u9.1, .ref u9.2])), (u9.1, .inl (cI, 128, .inl (upd (flm 128) 0 7))), (u9.2, .inl (cI, 8, .inl (upd (fun _ => 0) 7 1)))]) rfl ?_
  refine k_putF X (ci := 2) (q0 := 0) (ty := .object "PageKernel$Blocks") (ws' := [(h0, .inr (2, [.ref q5, .null, .null, .null, .null, .null, .null, .null, .null, .null, .null, .null, .int 0, .int 0, .int 0, .int 0])), (q5, .inr (0, [.ref u9.1, .ref u9.2])), (u9.1, .inl (cI, 128, .inl (upd (flm 128) 0 7))), (u9.2, .inl (cI, 8, .inl (upd (fun _ => 0) 7 1)))]) inX2 rfl tyX2_ok nmX2 rfl 0 (by decide) rfl fl_X2_10 rfl rfl (by decide +kernel) rfl rfl (Nat.le_of_ble_eq_true rfl) dX2_init_12 ?_
  refine k_aload_n X (j := 0) dX2_init_15 rfl rfl ?_
  refine k_new X (ci := 1) (fs := [.null, .null]) inX1 rfl tyX1_ok cl_X2_16 ia_X1 ii_X1 (fun j hj => by rcases (show j = 0 ∨ j = 1 by omega) with rfl | rfl <;> rfl) (Nat.le_of_ble_eq_true rfl) (Nat.le_of_ble_eq_true rfl) dX2_init_16 (fun q16 => ?_)
  refine k_eq (ws' := [(h0, .inr (2, [.ref q5, .null, .null, .null, .null, .null, .null, .null, .null, .null, .null, .null, .int 0, .int 0, .int 0, .int 0])), (q5, .inr (0, [.ref u9.1, .ref u9.2])), (u9.1, .inl (cI, 128, .inl (upd (flm 128) 0 7))), (u9.2, .inl (cI, 8, .inl (upd (fun _ => 0) 7 1))), (q16, .inr (1, [.null, .null]))]) rfl ?_
  refine k_dup X dX2_init_19 rfl ?_
  refine k_aload_n X (j := 0) dX2_init_20 rfl rfl ?_
  refine k_get X (ci := 2) (q0 := 0) (v := .ref q5) inX2 rfl rfl 0 (by decide) rfl fl_X2_10 dX2_init_21 ?_
  refine k_ctor X hN (n := 1) (wr := [(h0, .inr (2, [.ref q5, .null, .null, .null, .null, .null, .null, .null, .null, .null, .null, .null, .int 0, .int 0, .int 0, .int 0])), (q5, .inr (0, [.ref u9.1, .ref u9.2])), (u9.1, .inl (cI, 128, .inl (upd (flm 128) 0 7))), (u9.2, .inl (cI, 8, .inl (upd (fun _ => 0) 7 1)))]) (As := [.ref q5]) (st := [.ref q16, .ref h0]) (fun sz => c_X1_init l D cI cZ q16 q5 sz) ml_X2_18 im_X1_init ii_X1 co_X1_init rfl rfl rfl (by decide +kernel) ⟨(Nat.le_of_ble_eq_true rfl), (Nat.le_of_ble_eq_true rfl)⟩ [4] [0, 1, 2, 3] rfl rfl (by decide) (by decide) (by decide) rfl rfl (Nat.le_of_ble_eq_true rfl) dX2_init_24 ⟨(Nat.le_of_ble_eq_true rfl), (Nat.le_of_ble_eq_true rfl)⟩ (fun u24 => ?_)
  refine k_eq (ws' := [(h0, .inr (2, [.ref q5, .null, .null, .null, .null, .null, .null, .null, .null, .null, .null, .null, .int 0, .int 0, .int 0, .int 0])), (q5, .inr (0, [.ref u9.1, .ref u9.2])), (u9.1, .inl (cI, 128, .inl (upd (flm 128) 0 7))), (u9.2, .inl (cI, 8, .inl (upd (fun _ => 0) 7 1))), (q16, .inr (1, [.ref q5, .ref u24])), (u24, .inl (cI, 128, .inl (fun _ => 0)))]) rfl ?_
  refine k_putF X (ci := 2) (q0 := 0) (ty := .object "PageKernel$Places") (ws' := [(h0, .inr (2, [.ref q5, .ref q16, .null, .null, .null, .null, .null, .null, .null, .null, .null, .null, .int 0, .int 0, .int 0, .int 0])), (q5, .inr (0, [.ref u9.1, .ref u9.2])), (u9.1, .inl (cI, 128, .inl (upd (flm 128) 0 7))), (u9.2, .inl (cI, 8, .inl (upd (fun _ => 0) 7 1))), (q16, .inr (1, [.ref q5, .ref u24])), (u24, .inl (cI, 128, .inl (fun _ => 0)))]) inX2 rfl tyX2_ok nmX2 rfl 1 (by decide) rfl fl_X2_21 rfl rfl (by decide +kernel) rfl rfl (Nat.le_of_ble_eq_true rfl) dX2_init_27 ?_
  refine k_aload_n X (j := 0) dX2_init_30 rfl rfl ?_
  refine k_new X (ci := 1) (fs := [.null, .null]) inX1 rfl tyX1_ok cl_X2_16 ia_X1 ii_X1 (fun j hj => by rcases (show j = 0 ∨ j = 1 by omega) with rfl | rfl <;> rfl) (Nat.le_of_ble_eq_true rfl) (Nat.le_of_ble_eq_true rfl) dX2_init_31 (fun q31 => ?_)
  refine k_eq (ws' := [(h0, .inr (2, [.ref q5, .ref q16, .null, .null, .null, .null, .null, .null, .null, .null, .null, .null, .int 0, .int 0, .int 0, .int 0])), (q5, .inr (0, [.ref u9.1, .ref u9.2])), (u9.1, .inl (cI, 128, .inl (upd (flm 128) 0 7))), (u9.2, .inl (cI, 8, .inl (upd (fun _ => 0) 7 1))), (q16, .inr (1, [.ref q5, .ref u24])), (u24, .inl (cI, 128, .inl (fun _ => 0))), (q31, .inr (1, [.null, .null]))]) rfl ?_
  refine k_dup X dX2_init_34 rfl ?_
  refine k_aload_n X (j := 0) dX2_init_35 rfl rfl ?_
  refine k_get X (ci := 2) (q0 := 0) (v := .ref q5) inX2 rfl rfl 0 (by decide) rfl fl_X2_10 dX2_init_36 ?_
  refine k_ctor X hN (n := 1) (wr := [(h0, .inr (2, [.ref q5, .ref q16, .null, .null, .null, .null, .null, .null, .null, .null, .null, .null, .int 0, .int 0, .int 0, .int 0])), (q5, .inr (0, [.ref u9.1, .ref u9.2])), (u9.1, .inl (cI, 128, .inl (upd (flm 128) 0 7))), (u9.2, .inl (cI, 8, .inl (upd (fun _ => 0) 7 1))), (q16, .inr (1, [.ref q5, .ref u24])), (u24, .inl (cI, 128, .inl (fun _ => 0)))]) (As := [.ref q5]) (st := [.ref q31, .ref h0]) (fun sz => c_X1_init l D cI cZ q31 q5 sz) ml_X2_18 im_X1_init ii_X1 co_X1_init rfl rfl rfl (by decide +kernel) ⟨(Nat.le_of_ble_eq_true rfl), (Nat.le_of_ble_eq_true rfl)⟩ [6] [0, 1, 2, 3, 4, 5] rfl rfl (by decide) (by decide) (by decide) rfl rfl (Nat.le_of_ble_eq_true rfl) dX2_init_39 ⟨(Nat.le_of_ble_eq_true rfl), (Nat.le_of_ble_eq_true rfl)⟩ (fun u39 => ?_)
  refine k_eq (ws' := [(h0, .inr (2, [.ref q5, .ref q16, .null, .null, .null, .null, .null, .null, .null, .null, .null, .null, .int 0, .int 0, .int 0, .int 0])), (q5, .inr (0, [.ref u9.1, .ref u9.2])), (u9.1, .inl (cI, 128, .inl (upd (flm 128) 0 7))), (u9.2, .inl (cI, 8, .inl (upd (fun _ => 0) 7 1))), (q16, .inr (1, [.ref q5, .ref u24])), (u24, .inl (cI, 128, .inl (fun _ => 0))), (q31, .inr (1, [.ref q5, .ref u39])), (u39, .inl (cI, 128, .inl (fun _ => 0)))]) rfl ?_
  refine k_putF X (ci := 2) (q0 := 0) (ty := .object "PageKernel$Places") (ws' := [(h0, .inr (2, [.ref q5, .ref q16, .ref q31, .null, .null, .null, .null, .null, .null, .null, .null, .null, .int 0, .int 0, .int 0, .int 0])), (q5, .inr (0, [.ref u9.1, .ref u9.2])), (u9.1, .inl (cI, 128, .inl (upd (flm 128) 0 7))), (u9.2, .inl (cI, 8, .inl (upd (fun _ => 0) 7 1))), (q16, .inr (1, [.ref q5, .ref u24])), (u24, .inl (cI, 128, .inl (fun _ => 0))), (q31, .inr (1, [.ref q5, .ref u39])), (u39, .inl (cI, 128, .inl (fun _ => 0)))]) inX2 rfl tyX2_ok nmX2 rfl 2 (by decide) rfl fl_X2_25 rfl rfl (by decide +kernel) rfl rfl (Nat.le_of_ble_eq_true rfl) dX2_init_42 ?_
  refine k_aload_n X (j := 0) dX2_init_45 rfl rfl ?_
  refine k_sipush X (v := 8192) dX2_init_46 (by decide) ?_
  refine k_newI X (N := 8192) dX2_init_49 (by decide) (by decide) (by decide) (Nat.le_of_ble_eq_true rfl) (Nat.le_of_ble_eq_true rfl) (fun q49 => ?_)
  refine k_eq (ws' := [(h0, .inr (2, [.ref q5, .ref q16, .ref q31, .null, .null, .null, .null, .null, .null, .null, .null, .null, .int 0, .int 0, .int 0, .int 0])), (q5, .inr (0, [.ref u9.1, .ref u9.2])), (u9.1, .inl (cI, 128, .inl (upd (flm 128) 0 7))), (u9.2, .inl (cI, 8, .inl (upd (fun _ => 0) 7 1))), (q16, .inr (1, [.ref q5, .ref u24])), (u24, .inl (cI, 128, .inl (fun _ => 0))), (q31, .inr (1, [.ref q5, .ref u39])), (u39, .inl (cI, 128, .inl (fun _ => 0))), (q49, .inl (cI, 8192, .inl (fun _ => 0)))]) rfl ?_
  refine k_putF X (ci := 2) (q0 := 0) (ty := .array .int) (ws' := [(h0, .inr (2, [.ref q5, .ref q16, .ref q31, .ref q49, .null, .null, .null, .null, .null, .null, .null, .null, .int 0, .int 0, .int 0, .int 0])), (q5, .inr (0, [.ref u9.1, .ref u9.2])), (u9.1, .inl (cI, 128, .inl (upd (flm 128) 0 7))), (u9.2, .inl (cI, 8, .inl (upd (fun _ => 0) 7 1))), (q16, .inr (1, [.ref q5, .ref u24])), (u24, .inl (cI, 128, .inl (fun _ => 0))), (q31, .inr (1, [.ref q5, .ref u39])), (u39, .inl (cI, 128, .inl (fun _ => 0))), (q49, .inl (cI, 8192, .inl (fun _ => 0)))]) inX2 rfl tyX2_ok nmX2 rfl 3 (by decide) rfl fl_X2_28 rfl rfl (by decide +kernel) rfl rfl (Nat.le_of_ble_eq_true rfl) dX2_init_51 ?_
  refine k_aload_n X (j := 0) dX2_init_54 rfl rfl ?_
  refine k_sipush X (v := 128) dX2_init_55 (by decide) ?_
  refine k_newI X (N := 128) dX2_init_58 (by decide) (by decide) (by decide) (Nat.le_of_ble_eq_true rfl) (Nat.le_of_ble_eq_true rfl) (fun q58 => ?_)
  refine k_eq (ws' := [(h0, .inr (2, [.ref q5, .ref q16, .ref q31, .ref q49, .null, .null, .null, .null, .null, .null, .null, .null, .int 0, .int 0, .int 0, .int 0])), (q5, .inr (0, [.ref u9.1, .ref u9.2])), (u9.1, .inl (cI, 128, .inl (upd (flm 128) 0 7))), (u9.2, .inl (cI, 8, .inl (upd (fun _ => 0) 7 1))), (q16, .inr (1, [.ref q5, .ref u24])), (u24, .inl (cI, 128, .inl (fun _ => 0))), (q31, .inr (1, [.ref q5, .ref u39])), (u39, .inl (cI, 128, .inl (fun _ => 0))), (q49, .inl (cI, 8192, .inl (fun _ => 0))), (q58, .inl (cI, 128, .inl (fun _ => 0)))]) rfl ?_
  refine k_putF X (ci := 2) (q0 := 0) (ty := .array .int) (ws' := [(h0, .inr (2, [.ref q5, .ref q16, .ref q31, .ref q49, .ref q58, .null, .null, .null, .null, .null, .null, .null, .int 0, .int 0, .int 0, .int 0])), (q5, .inr (0, [.ref u9.1, .ref u9.2])), (u9.1, .inl (cI, 128, .inl (upd (flm 128) 0 7))), (u9.2, .inl (cI, 8, .inl (upd (fun _ => 0) 7 1))), (q16, .inr (1, [.ref q5, .ref u24])), (u24, .inl (cI, 128, .inl (fun _ => 0))), (q31, .inr (1, [.ref q5, .ref u39])), (u39, .inl (cI, 128, .inl (fun _ => 0))), (q49, .inl (cI, 8192, .inl (fun _ => 0))), (q58, .inl (cI, 128, .inl (fun _ => 0)))]) inX2 rfl tyX2_ok nmX2 rfl 4 (by decide) rfl fl_X2_32 rfl rfl (by decide +kernel) rfl rfl (Nat.le_of_ble_eq_true rfl) dX2_init_60 ?_
  refine k_aload_n X (j := 0) dX2_init_63 rfl rfl ?_
  refine k_sipush X (v := 128) dX2_init_64 (by decide) ?_
  refine k_newI X (N := 128) dX2_init_67 (by decide) (by decide) (by decide) (Nat.le_of_ble_eq_true rfl) (Nat.le_of_ble_eq_true rfl) (fun q67 => ?_)
  refine k_eq (ws' := [(h0, .inr (2, [.ref q5, .ref q16, .ref q31, .ref q49, .ref q58, .null, .null, .null, .null, .null, .null, .null, .int 0, .int 0, .int 0, .int 0])), (q5, .inr (0, [.ref u9.1, .ref u9.2])), (u9.1, .inl (cI, 128, .inl (upd (flm 128) 0 7))), (u9.2, .inl (cI, 8, .inl (upd (fun _ => 0) 7 1))), (q16, .inr (1, [.ref q5, .ref u24])), (u24, .inl (cI, 128, .inl (fun _ => 0))), (q31, .inr (1, [.ref q5, .ref u39])), (u39, .inl (cI, 128, .inl (fun _ => 0))), (q49, .inl (cI, 8192, .inl (fun _ => 0))), (q58, .inl (cI, 128, .inl (fun _ => 0))), (q67, .inl (cI, 128, .inl (fun _ => 0)))]) rfl ?_
  refine k_putF X (ci := 2) (q0 := 0) (ty := .array .int) (ws' := [(h0, .inr (2, [.ref q5, .ref q16, .ref q31, .ref q49, .ref q58, .ref q67, .null, .null, .null, .null, .null, .null, .int 0, .int 0, .int 0, .int 0])), (q5, .inr (0, [.ref u9.1, .ref u9.2])), (u9.1, .inl (cI, 128, .inl (upd (flm 128) 0 7))), (u9.2, .inl (cI, 8, .inl (upd (fun _ => 0) 7 1))), (q16, .inr (1, [.ref q5, .ref u24])), (u24, .inl (cI, 128, .inl (fun _ => 0))), (q31, .inr (1, [.ref q5, .ref u39])), (u39, .inl (cI, 128, .inl (fun _ => 0))), (q49, .inl (cI, 8192, .inl (fun _ => 0))), (q58, .inl (cI, 128, .inl (fun _ => 0))), (q67, .inl (cI, 128, .inl (fun _ => 0)))]) inX2 rfl tyX2_ok nmX2 rfl 5 (by decide) rfl fl_X2_35 rfl rfl (by decide +kernel) rfl rfl (Nat.le_of_ble_eq_true rfl) dX2_init_69 ?_
  refine k_iconst X (v := 0) dX2_init_72 (by decide) ?_
  refine k_istore_n X (lv' := [(1, .int 0), (0, .ref h0)]) dX2_init_73 rfl (by decide) rfl ?_
  refine k_eq (ws' := [(h0, .inr (2, [.ref q5, .ref q16, .ref q31, .ref q49, .ref q58, .ref q67, .null, .null, .null, .null, .null, .null, .int 0, .int 0, .int 0, .int 0])), (q5, .inr (0, [.ref u9.1, .ref u9.2])), (u9.1, .inl (cI, 128, .inl (upd (flm 128) 0 7))), (u9.2, .inl (cI, 8, .inl (upd (fun _ => 0) 7 1))), (q16, .inr (1, [.ref q5, .ref u24])), (u24, .inl (cI, 128, .inl (fun _ => 0))), (q31, .inr (1, [.ref q5, .ref u39])), (u39, .inl (cI, 128, .inl (fun _ => 0))), (q49, .inl (cI, 8192, .inl (fun _ => 0))), (q58, .inl (cI, 128, .inl (fun _ => 0))), (q67, .inl (cI, 128, .inl (flm 0)))]) (by rw [flm_0]) ?_
  refine k_sub (lv' := [(0, .ref h0), (1, .int (nI 0))]) [1, 0] rfl ?_
  refine cl_X2_init_74 l D cI cZ X h0 q5 u9.1 u9.2 q16 u24 q31 u39 q49 q58 q67 ?_ 128 0 (by decide) (by decide)
  refine k_aload_n X (j := 0) dX2_init_94 rfl rfl ?_
  refine k_bipush X (v := 16) dX2_init_95 (by decide) ?_
  refine k_newI X (N := 16) dX2_init_97 (by decide) (by decide) (by decide) (Nat.le_of_ble_eq_true rfl) (Nat.le_of_ble_eq_true rfl) (fun q97 => ?_)
  refine k_eq (ws' := [(h0, .inr (2, [.ref q5, .ref q16, .ref q31, .ref q49, .ref q58, .ref q67, .null, .null, .null, .null, .null, .null, .int 0, .int 0, .int 0, .int 0])), (q5, .inr (0, [.ref u9.1, .ref u9.2])), (u9.1, .inl (cI, 128, .inl (upd (flm 128) 0 7))), (u9.2, .inl (cI, 8, .inl (upd (fun _ => 0) 7 1))), (q16, .inr (1, [.ref q5, .ref u24])), (u24, .inl (cI, 128, .inl (fun _ => 0))), (q31, .inr (1, [.ref q5, .ref u39])), (u39, .inl (cI, 128, .inl (fun _ => 0))), (q49, .inl (cI, 8192, .inl (fun _ => 0))), (q58, .inl (cI, 128, .inl (fun _ => 0))), (q67, .inl (cI, 128, .inl (flm 128))), (q97, .inl (cI, 16, .inl (fun _ => 0)))]) rfl ?_
  refine k_putF X (ci := 2) (q0 := 0) (ty := .array .int) (ws' := [(h0, .inr (2, [.ref q5, .ref q16, .ref q31, .ref q49, .ref q58, .ref q67, .ref q97, .null, .null, .null, .null, .null, .int 0, .int 0, .int 0, .int 0])), (q5, .inr (0, [.ref u9.1, .ref u9.2])), (u9.1, .inl (cI, 128, .inl (upd (flm 128) 0 7))), (u9.2, .inl (cI, 8, .inl (upd (fun _ => 0) 7 1))), (q16, .inr (1, [.ref q5, .ref u24])), (u24, .inl (cI, 128, .inl (fun _ => 0))), (q31, .inr (1, [.ref q5, .ref u39])), (u39, .inl (cI, 128, .inl (fun _ => 0))), (q49, .inl (cI, 8192, .inl (fun _ => 0))), (q58, .inl (cI, 128, .inl (fun _ => 0))), (q67, .inl (cI, 128, .inl (flm 128))), (q97, .inl (cI, 16, .inl (fun _ => 0)))]) inX2 rfl tyX2_ok nmX2 rfl 6 (by decide) rfl fl_X2_38 rfl rfl (by decide +kernel) rfl rfl (Nat.le_of_ble_eq_true rfl) dX2_init_99 ?_
  refine k_aload_n X (j := 0) dX2_init_102 rfl rfl ?_
  refine k_bipush X (v := 16) dX2_init_103 (by decide) ?_
  refine k_newI X (N := 16) dX2_init_105 (by decide) (by decide) (by decide) (Nat.le_of_ble_eq_true rfl) (Nat.le_of_ble_eq_true rfl) (fun q105 => ?_)
  refine k_eq (ws' := [(h0, .inr (2, [.ref q5, .ref q16, .ref q31, .ref q49, .ref q58, .ref q67, .ref q97, .null, .null, .null, .null, .null, .int 0, .int 0, .int 0, .int 0])), (q5, .inr (0, [.ref u9.1, .ref u9.2])), (u9.1, .inl (cI, 128, .inl (upd (flm 128) 0 7))), (u9.2, .inl (cI, 8, .inl (upd (fun _ => 0) 7 1))), (q16, .inr (1, [.ref q5, .ref u24])), (u24, .inl (cI, 128, .inl (fun _ => 0))), (q31, .inr (1, [.ref q5, .ref u39])), (u39, .inl (cI, 128, .inl (fun _ => 0))), (q49, .inl (cI, 8192, .inl (fun _ => 0))), (q58, .inl (cI, 128, .inl (fun _ => 0))), (q67, .inl (cI, 128, .inl (flm 128))), (q97, .inl (cI, 16, .inl (fun _ => 0))), (q105, .inl (cI, 16, .inl (fun _ => 0)))]) rfl ?_
  refine k_putF X (ci := 2) (q0 := 0) (ty := .array .int) (ws' := [(h0, .inr (2, [.ref q5, .ref q16, .ref q31, .ref q49, .ref q58, .ref q67, .ref q97, .ref q105, .null, .null, .null, .null, .int 0, .int 0, .int 0, .int 0])), (q5, .inr (0, [.ref u9.1, .ref u9.2])), (u9.1, .inl (cI, 128, .inl (upd (flm 128) 0 7))), (u9.2, .inl (cI, 8, .inl (upd (fun _ => 0) 7 1))), (q16, .inr (1, [.ref q5, .ref u24])), (u24, .inl (cI, 128, .inl (fun _ => 0))), (q31, .inr (1, [.ref q5, .ref u39])), (u39, .inl (cI, 128, .inl (fun _ => 0))), (q49, .inl (cI, 8192, .inl (fun _ => 0))), (q58, .inl (cI, 128, .inl (fun _ => 0))), (q67, .inl (cI, 128, .inl (flm 128))), (q97, .inl (cI, 16, .inl (fun _ => 0))), (q105, .inl (cI, 16, .inl (fun _ => 0)))]) inX2 rfl tyX2_ok nmX2 rfl 7 (by decide) rfl fl_X2_41 rfl rfl (by decide +kernel) rfl rfl (Nat.le_of_ble_eq_true rfl) dX2_init_107 ?_
  refine k_aload_n X (j := 0) dX2_init_110 rfl rfl ?_
  refine k_bipush X (v := 16) dX2_init_111 (by decide) ?_
  refine k_newI X (N := 16) dX2_init_113 (by decide) (by decide) (by decide) (Nat.le_of_ble_eq_true rfl) (Nat.le_of_ble_eq_true rfl) (fun q113 => ?_)
  refine k_eq (ws' := [(h0, .inr (2, [.ref q5, .ref q16, .ref q31, .ref q49, .ref q58, .ref q67, .ref q97, .ref q105, .null, .null, .null, .null, .int 0, .int 0, .int 0, .int 0])), (q5, .inr (0, [.ref u9.1, .ref u9.2])), (u9.1, .inl (cI, 128, .inl (upd (flm 128) 0 7))), (u9.2, .inl (cI, 8, .inl (upd (fun _ => 0) 7 1))), (q16, .inr (1, [.ref q5, .ref u24])), (u24, .inl (cI, 128, .inl (fun _ => 0))), (q31, .inr (1, [.ref q5, .ref u39])), (u39, .inl (cI, 128, .inl (fun _ => 0))), (q49, .inl (cI, 8192, .inl (fun _ => 0))), (q58, .inl (cI, 128, .inl (fun _ => 0))), (q67, .inl (cI, 128, .inl (flm 128))), (q97, .inl (cI, 16, .inl (fun _ => 0))), (q105, .inl (cI, 16, .inl (fun _ => 0))), (q113, .inl (cI, 16, .inl (fun _ => 0)))]) rfl ?_
  refine k_putF X (ci := 2) (q0 := 0) (ty := .array .int) (ws' := [(h0, .inr (2, [.ref q5, .ref q16, .ref q31, .ref q49, .ref q58, .ref q67, .ref q97, .ref q105, .ref q113, .null, .null, .null, .int 0, .int 0, .int 0, .int 0])), (q5, .inr (0, [.ref u9.1, .ref u9.2])), (u9.1, .inl (cI, 128, .inl (upd (flm 128) 0 7))), (u9.2, .inl (cI, 8, .inl (upd (fun _ => 0) 7 1))), (q16, .inr (1, [.ref q5, .ref u24])), (u24, .inl (cI, 128, .inl (fun _ => 0))), (q31, .inr (1, [.ref q5, .ref u39])), (u39, .inl (cI, 128, .inl (fun _ => 0))), (q49, .inl (cI, 8192, .inl (fun _ => 0))), (q58, .inl (cI, 128, .inl (fun _ => 0))), (q67, .inl (cI, 128, .inl (flm 128))), (q97, .inl (cI, 16, .inl (fun _ => 0))), (q105, .inl (cI, 16, .inl (fun _ => 0))), (q113, .inl (cI, 16, .inl (fun _ => 0)))]) inX2 rfl tyX2_ok nmX2 rfl 8 (by decide) rfl fl_X2_44 rfl rfl (by decide +kernel) rfl rfl (Nat.le_of_ble_eq_true rfl) dX2_init_115 ?_
  refine k_aload_n X (j := 0) dX2_init_118 rfl rfl ?_
  refine k_bipush X (v := 16) dX2_init_119 (by decide) ?_
  refine k_newI X (N := 16) dX2_init_121 (by decide) (by decide) (by decide) (Nat.le_of_ble_eq_true rfl) (Nat.le_of_ble_eq_true rfl) (fun q121 => ?_)
  refine k_eq (ws' := [(h0, .inr (2, [.ref q5, .ref q16, .ref q31, .ref q49, .ref q58, .ref q67, .ref q97, .ref q105, .ref q113, .null, .null, .null, .int 0, .int 0, .int 0, .int 0])), (q5, .inr (0, [.ref u9.1, .ref u9.2])), (u9.1, .inl (cI, 128, .inl (upd (flm 128) 0 7))), (u9.2, .inl (cI, 8, .inl (upd (fun _ => 0) 7 1))), (q16, .inr (1, [.ref q5, .ref u24])), (u24, .inl (cI, 128, .inl (fun _ => 0))), (q31, .inr (1, [.ref q5, .ref u39])), (u39, .inl (cI, 128, .inl (fun _ => 0))), (q49, .inl (cI, 8192, .inl (fun _ => 0))), (q58, .inl (cI, 128, .inl (fun _ => 0))), (q67, .inl (cI, 128, .inl (flm 128))), (q97, .inl (cI, 16, .inl (fun _ => 0))), (q105, .inl (cI, 16, .inl (fun _ => 0))), (q113, .inl (cI, 16, .inl (fun _ => 0))), (q121, .inl (cI, 16, .inl (fun _ => 0)))]) rfl ?_
  refine k_putF X (ci := 2) (q0 := 0) (ty := .array .int) (ws' := [(h0, .inr (2, [.ref q5, .ref q16, .ref q31, .ref q49, .ref q58, .ref q67, .ref q97, .ref q105, .ref q113, .ref q121, .null, .null, .int 0, .int 0, .int 0, .int 0])), (q5, .inr (0, [.ref u9.1, .ref u9.2])), (u9.1, .inl (cI, 128, .inl (upd (flm 128) 0 7))), (u9.2, .inl (cI, 8, .inl (upd (fun _ => 0) 7 1))), (q16, .inr (1, [.ref q5, .ref u24])), (u24, .inl (cI, 128, .inl (fun _ => 0))), (q31, .inr (1, [.ref q5, .ref u39])), (u39, .inl (cI, 128, .inl (fun _ => 0))), (q49, .inl (cI, 8192, .inl (fun _ => 0))), (q58, .inl (cI, 128, .inl (fun _ => 0))), (q67, .inl (cI, 128, .inl (flm 128))), (q97, .inl (cI, 16, .inl (fun _ => 0))), (q105, .inl (cI, 16, .inl (fun _ => 0))), (q113, .inl (cI, 16, .inl (fun _ => 0))), (q121, .inl (cI, 16, .inl (fun _ => 0)))]) inX2 rfl tyX2_ok nmX2 rfl 9 (by decide) rfl fl_X2_47 rfl rfl (by decide +kernel) rfl rfl (Nat.le_of_ble_eq_true rfl) dX2_init_123 ?_
  refine k_aload_n X (j := 0) dX2_init_126 rfl rfl ?_
  refine k_bipush X (v := 16) dX2_init_127 (by decide) ?_
  refine k_newI X (N := 16) dX2_init_129 (by decide) (by decide) (by decide) (Nat.le_of_ble_eq_true rfl) (Nat.le_of_ble_eq_true rfl) (fun q129 => ?_)
  refine k_eq (ws' := [(h0, .inr (2, [.ref q5, .ref q16, .ref q31, .ref q49, .ref q58, .ref q67, .ref q97, .ref q105, .ref q113, .ref q121, .null, .null, .int 0, .int 0, .int 0, .int 0])), (q5, .inr (0, [.ref u9.1, .ref u9.2])), (u9.1, .inl (cI, 128, .inl (upd (flm 128) 0 7))), (u9.2, .inl (cI, 8, .inl (upd (fun _ => 0) 7 1))), (q16, .inr (1, [.ref q5, .ref u24])), (u24, .inl (cI, 128, .inl (fun _ => 0))), (q31, .inr (1, [.ref q5, .ref u39])), (u39, .inl (cI, 128, .inl (fun _ => 0))), (q49, .inl (cI, 8192, .inl (fun _ => 0))), (q58, .inl (cI, 128, .inl (fun _ => 0))), (q67, .inl (cI, 128, .inl (flm 128))), (q97, .inl (cI, 16, .inl (fun _ => 0))), (q105, .inl (cI, 16, .inl (fun _ => 0))), (q113, .inl (cI, 16, .inl (fun _ => 0))), (q121, .inl (cI, 16, .inl (fun _ => 0))), (q129, .inl (cI, 16, .inl (fun _ => 0)))]) rfl ?_
  refine k_putF X (ci := 2) (q0 := 0) (ty := .array .int) (ws' := [(h0, .inr (2, [.ref q5, .ref q16, .ref q31, .ref q49, .ref q58, .ref q67, .ref q97, .ref q105, .ref q113, .ref q121, .ref q129, .null, .int 0, .int 0, .int 0, .int 0])), (q5, .inr (0, [.ref u9.1, .ref u9.2])), (u9.1, .inl (cI, 128, .inl (upd (flm 128) 0 7))), (u9.2, .inl (cI, 8, .inl (upd (fun _ => 0) 7 1))), (q16, .inr (1, [.ref q5, .ref u24])), (u24, .inl (cI, 128, .inl (fun _ => 0))), (q31, .inr (1, [.ref q5, .ref u39])), (u39, .inl (cI, 128, .inl (fun _ => 0))), (q49, .inl (cI, 8192, .inl (fun _ => 0))), (q58, .inl (cI, 128, .inl (fun _ => 0))), (q67, .inl (cI, 128, .inl (flm 128))), (q97, .inl (cI, 16, .inl (fun _ => 0))), (q105, .inl (cI, 16, .inl (fun _ => 0))), (q113, .inl (cI, 16, .inl (fun _ => 0))), (q121, .inl (cI, 16, .inl (fun _ => 0))), (q129, .inl (cI, 16, .inl (fun _ => 0)))]) inX2 rfl tyX2_ok nmX2 rfl 10 (by decide) rfl fl_X2_50 rfl rfl (by decide +kernel) rfl rfl (Nat.le_of_ble_eq_true rfl) dX2_init_131 ?_
  refine k_aload_n X (j := 0) dX2_init_134 rfl rfl ?_
  refine k_bipush X (v := 16) dX2_init_135 (by decide) ?_
  refine k_newI X (N := 16) dX2_init_137 (by decide) (by decide) (by decide) (Nat.le_of_ble_eq_true rfl) (Nat.le_of_ble_eq_true rfl) (fun q137 => ?_)
  refine k_eq (ws' := [(h0, .inr (2, [.ref q5, .ref q16, .ref q31, .ref q49, .ref q58, .ref q67, .ref q97, .ref q105, .ref q113, .ref q121, .ref q129, .null, .int 0, .int 0, .int 0, .int 0])), (q5, .inr (0, [.ref u9.1, .ref u9.2])), (u9.1, .inl (cI, 128, .inl (upd (flm 128) 0 7))), (u9.2, .inl (cI, 8, .inl (upd (fun _ => 0) 7 1))), (q16, .inr (1, [.ref q5, .ref u24])), (u24, .inl (cI, 128, .inl (fun _ => 0))), (q31, .inr (1, [.ref q5, .ref u39])), (u39, .inl (cI, 128, .inl (fun _ => 0))), (q49, .inl (cI, 8192, .inl (fun _ => 0))), (q58, .inl (cI, 128, .inl (fun _ => 0))), (q67, .inl (cI, 128, .inl (flm 128))), (q97, .inl (cI, 16, .inl (fun _ => 0))), (q105, .inl (cI, 16, .inl (fun _ => 0))), (q113, .inl (cI, 16, .inl (fun _ => 0))), (q121, .inl (cI, 16, .inl (fun _ => 0))), (q129, .inl (cI, 16, .inl (fun _ => 0))), (q137, .inl (cI, 16, .inl (fun _ => 0)))]) rfl ?_
  refine k_putF X (ci := 2) (q0 := 0) (ty := .array .int) (ws' := [(h0, .inr (2, [.ref q5, .ref q16, .ref q31, .ref q49, .ref q58, .ref q67, .ref q97, .ref q105, .ref q113, .ref q121, .ref q129, .ref q137, .int 0, .int 0, .int 0, .int 0])), (q5, .inr (0, [.ref u9.1, .ref u9.2])), (u9.1, .inl (cI, 128, .inl (upd (flm 128) 0 7))), (u9.2, .inl (cI, 8, .inl (upd (fun _ => 0) 7 1))), (q16, .inr (1, [.ref q5, .ref u24])), (u24, .inl (cI, 128, .inl (fun _ => 0))), (q31, .inr (1, [.ref q5, .ref u39])), (u39, .inl (cI, 128, .inl (fun _ => 0))), (q49, .inl (cI, 8192, .inl (fun _ => 0))), (q58, .inl (cI, 128, .inl (fun _ => 0))), (q67, .inl (cI, 128, .inl (flm 128))), (q97, .inl (cI, 16, .inl (fun _ => 0))), (q105, .inl (cI, 16, .inl (fun _ => 0))), (q113, .inl (cI, 16, .inl (fun _ => 0))), (q121, .inl (cI, 16, .inl (fun _ => 0))), (q129, .inl (cI, 16, .inl (fun _ => 0))), (q137, .inl (cI, 16, .inl (fun _ => 0)))]) inX2 rfl tyX2_ok nmX2 rfl 11 (by decide) rfl fl_X2_53 rfl rfl (by decide +kernel) rfl rfl (Nat.le_of_ble_eq_true rfl) dX2_init_139 ?_
  refine k_iconst X (v := 0) dX2_init_142 (by decide) ?_
  refine k_istore_n X (lv' := [(1, .int 0), (0, .ref h0)]) dX2_init_143 rfl (by decide) rfl ?_
  refine k_eq (ws' := [(h0, .inr (2, [.ref q5, .ref q16, .ref q31, .ref q49, .ref q58, .ref q67, .ref q97, .ref q105, .ref q113, .ref q121, .ref q129, .ref q137, .int 0, .int 0, .int 0, .int 0])), (q5, .inr (0, [.ref u9.1, .ref u9.2])), (u9.1, .inl (cI, 128, .inl (upd (flm 128) 0 7))), (u9.2, .inl (cI, 8, .inl (upd (fun _ => 0) 7 1))), (q16, .inr (1, [.ref q5, .ref u24])), (u24, .inl (cI, 128, .inl (fun _ => 0))), (q31, .inr (1, [.ref q5, .ref u39])), (u39, .inl (cI, 128, .inl (fun _ => 0))), (q49, .inl (cI, 8192, .inl (fun _ => 0))), (q58, .inl (cI, 128, .inl (fun _ => 0))), (q67, .inl (cI, 128, .inl (flm 128))), (q97, .inl (cI, 16, .inl (fun _ => 0))), (q105, .inl (cI, 16, .inl (flm 0))), (q113, .inl (cI, 16, .inl (fun _ => 0))), (q121, .inl (cI, 16, .inl (fun _ => 0))), (q129, .inl (cI, 16, .inl (fun _ => 0))), (q137, .inl (cI, 16, .inl (fun _ => 0)))]) (by rw [flm_0]) ?_
  refine k_sub (lv' := [(0, .ref h0), (1, .int (nI 0))]) [1, 0] rfl ?_
  refine cl_X2_init_144 l D cI cZ X h0 q5 u9.1 u9.2 q16 u24 q31 u39 q49 q58 q67 q97 q105 q113 q121 q129 q137 ?_ 16 0 (by decide) (by decide)
  refine k_ord (ws' := [(h0, .inr (2, [.ref q5, .ref q16, .ref q31, .ref q49, .ref q58, .ref q67, .ref q97, .ref q105, .ref q113, .ref q121, .ref q129, .ref q137, .int 0, .int 0, .int 0, .int 0])), (q5, .inr (0, [.ref u9.1, .ref u9.2])), (q16, .inr (1, [.ref q5, .ref u24])), (q31, .inr (1, [.ref q5, .ref u39])), (u9.1, .inl (cI, 128, .inl (upd (flm 128) 0 7))), (u9.2, .inl (cI, 8, .inl (upd (fun _ => 0) 7 1))), (u24, .inl (cI, 128, .inl (fun _ => 0))), (u39, .inl (cI, 128, .inl (fun _ => 0))), (q49, .inl (cI, 8192, .inl (fun _ => 0))), (q58, .inl (cI, 128, .inl (fun _ => 0))), (q67, .inl (cI, 128, .inl (flm 128))), (q97, .inl (cI, 16, .inl (fun _ => 0))), (q105, .inl (cI, 16, .inl (flm 16))), (q113, .inl (cI, 16, .inl (fun _ => 0))), (q121, .inl (cI, 16, .inl (fun _ => 0))), (q129, .inl (cI, 16, .inl (fun _ => 0))), (q137, .inl (cI, 16, .inl (fun _ => 0)))]) [0, 1, 4, 6, 2, 3, 5, 7, 8, 9, 10, 11, 12, 13, 14, 15, 16] rfl (by decide) ?_
  exact k_ret X rfl (fun k => [h0, q5, q16, q31, u9.1, u9.2, u24, u39, q49, q58, q67, q97, q105, q113, q121, q129, q137].getD k 0) rfl dX2_init_170
set_option maxRecDepth 100000 in
set_option maxHeartbeats 4000000 in
theorem cl_X3_init_153 (l : Launch) (D : va_G) (cI cZ : ClassId) {p : Program} {e : Env} {R : Room} {s : State} {m : MethodId} {args : Array Value} {below : List Frame} {meth : Method} {c : Code} {A : Nat → Prop} {Q : State → Prop} {cells slots : Nat} (X : CI p s m args meth c cX3_init 2 RX3 D cI cZ A true) (h0 q8 q17 q26 q35 q44 q52 q60 q68 q76 q84 q93 q102 q110 q119 q128 q137 : Nat)
    (hx : Cc p l e R s m args below meth c 2 D A Q 173 [(0, .ref h0), (1, .int (nI 128))] [] [(h0, .inr (3, [.ref q8, .ref q17, .ref q26, .ref q35, .ref q44, .ref q52, .ref q60, .ref q68, .ref q76, .ref q84, .ref q93, .ref q102, .ref q110, .int 0, .int 0, .int 0, .int 0, .ref q119, .ref q128, .ref q137])), (q8, .inl (cZ, 1024, .inl (upd (fun _ => 0) 896 1))), (q17, .inl (cI, 128, .inl (fun _ => 0))), (q26, .inl (cZ, 512, .inl (fun _ => 0))), (q35, .inl (cI, 8192, .inl (fun _ => 0))), (q44, .inl (cI, 128, .inl (flm 128))), (q52, .inl (cI, 16, .inl (fun _ => 0))), (q60, .inl (cI, 16, .inl (fun _ => 0))), (q68, .inl (cI, 16, .inl (fun _ => 0))), (q76, .inl (cI, 16, .inl (fun _ => 0))), (q84, .inl (cI, 16, .inl (fun _ => 0))), (q93, .inl (cI, 4096, .inl (fun _ => 0))), (q102, .inl (cI, 256, .inl (fun _ => 0))), (q110, .inl (cI, 16, .inl (fun _ => 0))), (q119, .inl (cZ, 1024, .inl (fun _ => 0))), (q128, .inl (cI, 128, .inl (fun _ => 0))), (q137, .inl (cZ, 512, .inl (fun _ => 0)))] cells slots) : ∀ (n i : Nat), i ≤ 128 → 128 ≤ i + n → Cc p l e R s m args below meth c 2 D A Q 153 [(0, .ref h0), (1, .int (nI i))] [] [(h0, .inr (3, [.ref q8, .ref q17, .ref q26, .ref q35, .ref q44, .ref q52, .ref q60, .ref q68, .ref q76, .ref q84, .ref q93, .ref q102, .ref q110, .int 0, .int 0, .int 0, .int 0, .ref q119, .ref q128, .ref q137])), (q8, .inl (cZ, 1024, .inl (upd (fun _ => 0) 896 1))), (q17, .inl (cI, 128, .inl (fun _ => 0))), (q26, .inl (cZ, 512, .inl (fun _ => 0))), (q35, .inl (cI, 8192, .inl (fun _ => 0))), (q44, .inl (cI, 128, .inl (flm i))), (q52, .inl (cI, 16, .inl (fun _ => 0))), (q60, .inl (cI, 16, .inl (fun _ => 0))), (q68, .inl (cI, 16, .inl (fun _ => 0))), (q76, .inl (cI, 16, .inl (fun _ => 0))), (q84, .inl (cI, 16, .inl (fun _ => 0))), (q93, .inl (cI, 4096, .inl (fun _ => 0))), (q102, .inl (cI, 256, .inl (fun _ => 0))), (q110, .inl (cI, 16, .inl (fun _ => 0))), (q119, .inl (cZ, 1024, .inl (fun _ => 0))), (q128, .inl (cI, 128, .inl (fun _ => 0))), (q137, .inl (cZ, 512, .inl (fun _ => 0)))] cells slots := by
  intro n
  induction n with
  | zero =>
    intro i h1 h2
    have e : i = 128 := by omega
    subst e
    refine k_iload_n X (j := 1) dX3_init_153 rfl rfl ?_
    refine k_sipush X (v := 128) dX3_init_154 (by decide) ?_
    refine k_icmp_ge X (tgt := 173) dX3_init_157 (by decide) (fun hge => ?_) (fun hlt => ?_)
    · exact hx
    · exact absurd (nI_le (a := 128) (b := 128) (by omega) (by decide)) hlt
  | succ n ih =>
    intro i h1 h2
    refine k_iload_n X (j := 1) dX3_init_153 rfl rfl ?_
    refine k_sipush X (v := 128) dX3_init_154 (by decide) ?_
    refine k_icmp_ge X (tgt := 173) dX3_init_157 (by decide) (fun hge => ?_) (fun hlt => ?_)
    · have e : i = 128 := by
        have := (nI_leI (a := 128) (b := i) (by decide) (by omega)).mp hge
        omega
      subst e
      exact hx
    · have hi : i < 128 := by
        rcases Nat.lt_or_ge i 128 with q | q
        · exact q
        · exact absurd (nI_le (a := 128) (b := i) q (by omega)) hlt
      refine k_aload_n X (j := 0) dX3_init_160 rfl rfl ?_
      refine k_get X (ci := 3) (q0 := 0) (v := .ref q44) inX3 rfl rfl 4 (by decide) rfl fl_X3_23 dX3_init_161 ?_
      refine k_iload_n X (j := 1) dX3_init_164 rfl rfl ?_
      refine k_iconst X (v := (-1)) dX3_init_165 (by decide) ?_
      refine k_iast X (q0 := 5) (ws' := [(h0, .inr (3, [.ref q8, .ref q17, .ref q26, .ref q35, .ref q44, .ref q52, .ref q60, .ref q68, .ref q76, .ref q84, .ref q93, .ref q102, .ref q110, .int 0, .int 0, .int 0, .int 0, .ref q119, .ref q128, .ref q137])), (q8, .inl (cZ, 1024, .inl (upd (fun _ => 0) 896 1))), (q17, .inl (cI, 128, .inl (fun _ => 0))), (q26, .inl (cZ, 512, .inl (fun _ => 0))), (q35, .inl (cI, 8192, .inl (fun _ => 0))), (q44, .inl (cI, 128, .inl (flm (i + 1)))), (q52, .inl (cI, 16, .inl (fun _ => 0))), (q60, .inl (cI, 16, .inl (fun _ => 0))), (q68, .inl (cI, 16, .inl (fun _ => 0))), (q76, .inl (cI, 16, .inl (fun _ => 0))), (q84, .inl (cI, 16, .inl (fun _ => 0))), (q93, .inl (cI, 4096, .inl (fun _ => 0))), (q102, .inl (cI, 256, .inl (fun _ => 0))), (q110, .inl (cI, 16, .inl (fun _ => 0))), (q119, .inl (cZ, 1024, .inl (fun _ => 0))), (q128, .inl (cI, 128, .inl (fun _ => 0))), (q137, .inl (cZ, 512, .inl (fun _ => 0)))]) rfl (vp_in_nI hi (by decide)) (by rw [flm_s (by omega)]; rfl) dX3_init_166 ?_
      refine k_iinc X (j := 1) (v := nI (i + 1)) (lv' := [(1, .int (nI (i + 1))), (0, .ref h0)]) dX3_init_167 rfl (nI_1 i) (by decide) rfl ?_
      refine k_goto X (tgt := 153) dX3_init_170 (by decide) ?_
      refine k_sub (lv' := [(0, .ref h0), (1, .int (nI (i + 1)))]) [1, 0] rfl ?_
      exact ih (i + 1) (by omega) (by omega)

set_option maxRecDepth 100000 in
set_option maxHeartbeats 4000000 in
theorem c_X3_init (l : Launch) (D : va_G) (cI cZ : ClassId) (h0 : Nat) (sz : Nat) : Met l yX3_init (wsM yX3_init cX3_init 2 none) { frames := 1, cells := 16, slots := 16096, locals := 30 } (kCp D cI cZ [.ref h0] sz [(h0, .inr (3, [.null, .null, .null, .null, .null, .null, .null, .null, .null, .null, .null, .null, .null, .int 0, .int 0, .int 0, .int 0, .null, .null, .null]))]) (kCq D (S := Nat → Nat) (fun u => kwM cI cZ (va_up u 0 h0) sM0) sz [(h0, .inr (3, [.null, .null, .null, .null, .null, .null, .null, .null, .null, .null, .null, .null, .null, .int 0, .int 0, .int 0, .int 0, .null, .null, .null]))]) 16 16096 (va_A [(h0, .inr (3, [.null, .null, .null, .null, .null, .null, .null, .null, .null, .null, .null, .null, .null, .int 0, .int 0, .int 0, .int 0, .null, .null, .null]))] sz) := by
  refine Cc.met (own := RX3) (by decide) rfl rfl (Nat.le_of_ble_eq_true rfl) ?_
  intro p e s m args below meth c X hsz hN
  refine k_sub (lv' := [(0, .ref h0)]) [0] rfl ?_
  refine k_aload_n X (j := 0) dX3_init_0 rfl rfl ?_
  refine k_obj X ml_X3_1 dX3_init_1 (Nat.le_of_ble_eq_true rfl) (Nat.le_of_ble_eq_true rfl) ?_
  refine k_aload_n X (j := 0) dX3_init_4 rfl rfl ?_
  refine k_sipush X (v := 1024) dX3_init_5 (by decide) ?_
  refine k_newZ X (N := 1024) dX3_init_8 (by decide) (by decide) (by decide) (Nat.le_of_ble_eq_true rfl) (Nat.le_of_ble_eq_true rfl) (fun q8 => ?_)
  refine k_eq (ws' := [(h0, .inr (3, [.null, .null, .null, .null, .null, .null, .null, .null, .null, .null, .null, .null, .null, .int 0, .int 0, .int 0, .int 0, .null, .null, .null])), (q8, .inl (cZ, 1024, .inl (fun _ => 0)))]) rfl ?_
  refine k_putF X (ci := 3) (q0 := 0) (ty := .array .boolean) (ws' := [(h0, .inr (3, [.ref q8, .null, .null, .null, .null, .null, .null, .null, .null, .null, .null, .null, .null, .int 0, .int 0, .int 0, .int 0, .null, .null, .null])), (q8, .inl (cZ, 1024, .inl (fun _ => 0)))]) inX3 rfl tyX3_ok nmX3 rfl 0 (by decide) rfl fl_X3_7 rfl rfl (by decide +kernel) rfl rfl (Nat.le_of_ble_eq_true rfl) dX3_init_10 ?_
  refine k_aload_n X (j := 0) dX3_init_13 rfl rfl ?_
  refine k_sipush X (v := 128) dX3_init_14 (by decide) ?_
  refine k_newI X (N := 128) dX3_init_17 (by decide) (by decide) (by decide) (Nat.le_of_ble_eq_true rfl) (Nat.le_of_ble_eq_true rfl) (fun q17 => ?_)
  refine k_eq (ws' := [(h0, .inr (3, [.ref q8, .null, .null, .null, .null, .null, .null, .null, .null, .null, .null, .null, .null, .int 0, .int 0, .int 0, .int 0, .null, .null, .null])), (q8, .inl (cZ, 1024, .inl (fun _ => 0))), (q17, .inl (cI, 128, .inl (fun _ => 0)))]) rfl ?_
  refine k_putF X (ci := 3) (q0 := 0) (ty := .array .int) (ws' := [(h0, .inr (3, [.ref q8, .ref q17, .null, .null, .null, .null, .null, .null, .null, .null, .null, .null, .null, .int 0, .int 0, .int 0, .int 0, .null, .null, .null])), (q8, .inl (cZ, 1024, .inl (fun _ => 0))), (q17, .inl (cI, 128, .inl (fun _ => 0)))]) inX3 rfl tyX3_ok nmX3 rfl 1 (by decide) rfl fl_X3_13 rfl rfl (by decide +kernel) rfl rfl (Nat.le_of_ble_eq_true rfl) dX3_init_19 ?_
  refine k_aload_n X (j := 0) dX3_init_22 rfl rfl ?_
  refine k_sipush X (v := 512) dX3_init_23 (by decide) ?_
  refine k_newZ X (N := 512) dX3_init_26 (by decide) (by decide) (by decide) (Nat.le_of_ble_eq_true rfl) (Nat.le_of_ble_eq_true rfl) (fun q26 => ?_)
  refine k_eq (ws' := [(h0, .inr (3, [.ref q8, .ref q17, .null, .null, .null, .null, .null, .null, .null, .null, .null, .null, .null, .int 0, .int 0, .int 0, .int 0, .null, .null, .null])), (q8, .inl (cZ, 1024, .inl (fun _ => 0))), (q17, .inl (cI, 128, .inl (fun _ => 0))), (q26, .inl (cZ, 512, .inl (fun _ => 0)))]) rfl ?_
  refine k_putF X (ci := 3) (q0 := 0) (ty := .array .boolean) (ws' := [(h0, .inr (3, [.ref q8, .ref q17, .ref q26, .null, .null, .null, .null, .null, .null, .null, .null, .null, .null, .int 0, .int 0, .int 0, .int 0, .null, .null, .null])), (q8, .inl (cZ, 1024, .inl (fun _ => 0))), (q17, .inl (cI, 128, .inl (fun _ => 0))), (q26, .inl (cZ, 512, .inl (fun _ => 0)))]) inX3 rfl tyX3_ok nmX3 rfl 2 (by decide) rfl fl_X3_17 rfl rfl (by decide +kernel) rfl rfl (Nat.le_of_ble_eq_true rfl) dX3_init_28 ?_
  refine k_aload_n X (j := 0) dX3_init_31 rfl rfl ?_
  refine k_sipush X (v := 8192) dX3_init_32 (by decide) ?_
  refine k_newI X (N := 8192) dX3_init_35 (by decide) (by decide) (by decide) (Nat.le_of_ble_eq_true rfl) (Nat.le_of_ble_eq_true rfl) (fun q35 => ?_)
  refine k_eq (ws' := [(h0, .inr (3, [.ref q8, .ref q17, .ref q26, .null, .null, .null, .null, .null, .null, .null, .null, .null, .null, .int 0, .int 0, .int 0, .int 0, .null, .null, .null])), (q8, .inl (cZ, 1024, .inl (fun _ => 0))), (q17, .inl (cI, 128, .inl (fun _ => 0))), (q26, .inl (cZ, 512, .inl (fun _ => 0))), (q35, .inl (cI, 8192, .inl (fun _ => 0)))]) rfl ?_
  refine k_putF X (ci := 3) (q0 := 0) (ty := .array .int) (ws' := [(h0, .inr (3, [.ref q8, .ref q17, .ref q26, .ref q35, .null, .null, .null, .null, .null, .null, .null, .null, .null, .int 0, .int 0, .int 0, .int 0, .null, .null, .null])), (q8, .inl (cZ, 1024, .inl (fun _ => 0))), (q17, .inl (cI, 128, .inl (fun _ => 0))), (q26, .inl (cZ, 512, .inl (fun _ => 0))), (q35, .inl (cI, 8192, .inl (fun _ => 0)))]) inX3 rfl tyX3_ok nmX3 rfl 3 (by decide) rfl fl_X3_20 rfl rfl (by decide +kernel) rfl rfl (Nat.le_of_ble_eq_true rfl) dX3_init_37 ?_
  refine k_aload_n X (j := 0) dX3_init_40 rfl rfl ?_
  refine k_sipush X (v := 128) dX3_init_41 (by decide) ?_
  refine k_newI X (N := 128) dX3_init_44 (by decide) (by decide) (by decide) (Nat.le_of_ble_eq_true rfl) (Nat.le_of_ble_eq_true rfl) (fun q44 => ?_)
  refine k_eq (ws' := [(h0, .inr (3, [.ref q8, .ref q17, .ref q26, .ref q35, .null, .null, .null, .null, .null, .null, .null, .null, .null, .int 0, .int 0, .int 0, .int 0, .null, .null, .null])), (q8, .inl (cZ, 1024, .inl (fun _ => 0))), (q17, .inl (cI, 128, .inl (fun _ => 0))), (q26, .inl (cZ, 512, .inl (fun _ => 0))), (q35, .inl (cI, 8192, .inl (fun _ => 0))), (q44, .inl (cI, 128, .inl (fun _ => 0)))]) rfl ?_
  refine k_putF X (ci := 3) (q0 := 0) (ty := .array .int) (ws' := [(h0, .inr (3, [.ref q8, .ref q17, .ref q26, .ref q35, .ref q44, .null, .null, .null, .null, .null, .null, .null, .null, .int 0, .int 0, .int 0, .int 0, .null, .null, .null])), (q8, .inl (cZ, 1024, .inl (fun _ => 0))), (q17, .inl (cI, 128, .inl (fun _ => 0))), (q26, .inl (cZ, 512, .inl (fun _ => 0))), (q35, .inl (cI, 8192, .inl (fun _ => 0))), (q44, .inl (cI, 128, .inl (fun _ => 0)))]) inX3 rfl tyX3_ok nmX3 rfl 4 (by decide) rfl fl_X3_23 rfl rfl (by decide +kernel) rfl rfl (Nat.le_of_ble_eq_true rfl) dX3_init_46 ?_
  refine k_aload_n X (j := 0) dX3_init_49 rfl rfl ?_
  refine k_bipush X (v := 16) dX3_init_50 (by decide) ?_
  refine k_newI X (N := 16) dX3_init_52 (by decide) (by decide) (by decide) (Nat.le_of_ble_eq_true rfl) (Nat.le_of_ble_eq_true rfl) (fun q52 => ?_)
  refine k_eq (ws' := [(h0, .inr (3, [.ref q8, .ref q17, .ref q26, .ref q35, .ref q44, .null, .null, .null, .null, .null, .null, .null, .null, .int 0, .int 0, .int 0, .int 0, .null, .null, .null])), (q8, .inl (cZ, 1024, .inl (fun _ => 0))), (q17, .inl (cI, 128, .inl (fun _ => 0))), (q26, .inl (cZ, 512, .inl (fun _ => 0))), (q35, .inl (cI, 8192, .inl (fun _ => 0))), (q44, .inl (cI, 128, .inl (fun _ => 0))), (q52, .inl (cI, 16, .inl (fun _ => 0)))]) rfl ?_
  refine k_putF X (ci := 3) (q0 := 0) (ty := .array .int) (ws' := [(h0, .inr (3, [.ref q8, .ref q17, .ref q26, .ref q35, .ref q44, .ref q52, .null, .null, .null, .null, .null, .null, .null, .int 0, .int 0, .int 0, .int 0, .null, .null, .null])), (q8, .inl (cZ, 1024, .inl (fun _ => 0))), (q17, .inl (cI, 128, .inl (fun _ => 0))), (q26, .inl (cZ, 512, .inl (fun _ => 0))), (q35, .inl (cI, 8192, .inl (fun _ => 0))), (q44, .inl (cI, 128, .inl (fun _ => 0))), (q52, .inl (cI, 16, .inl (fun _ => 0)))]) inX3 rfl tyX3_ok nmX3 rfl 5 (by decide) rfl fl_X3_26 rfl rfl (by decide +kernel) rfl rfl (Nat.le_of_ble_eq_true rfl) dX3_init_54 ?_
  refine k_aload_n X (j := 0) dX3_init_57 rfl rfl ?_
  refine k_bipush X (v := 16) dX3_init_58 (by decide) ?_
  refine k_newI X (N := 16) dX3_init_60 (by decide) (by decide) (by decide) (Nat.le_of_ble_eq_true rfl) (Nat.le_of_ble_eq_true rfl) (fun q60 => ?_)
  refine k_eq (ws' := [(h0, .inr (3, [.ref q8, .ref q17, .ref q26, .ref q35, .ref q44, .ref q52, .null, .null, .null, .null, .null, .null, .null, .int 0, .int 0, .int 0, .int 0, .null, .null, .null])), (q8, .inl (cZ, 1024, .inl (fun _ => 0))), (q17, .inl (cI, 128, .inl (fun _ => 0))), (q26, .inl (cZ, 512, .inl (fun _ => 0))), (q35, .inl (cI, 8192, .inl (fun _ => 0))), (q44, .inl (cI, 128, .inl (fun _ => 0))), (q52, .inl (cI, 16, .inl (fun _ => 0))), (q60, .inl (cI, 16, .inl (fun _ => 0)))]) rfl ?_
  refine k_putF X (ci := 3) (q0 := 0) (ty := .array .int) (ws' := [(h0, .inr (3, [.ref q8, .ref q17, .ref q26, .ref q35, .ref q44, .ref q52, .ref q60, .null, .null, .null, .null, .null, .null, .int 0, .int 0, .int 0, .int 0, .null, .null, .null])), (q8, .inl (cZ, 1024, .inl (fun _ => 0))), (q17, .inl (cI, 128, .inl (fun _ => 0))), (q26, .inl (cZ, 512, .inl (fun _ => 0))), (q35, .inl (cI, 8192, .inl (fun _ => 0))), (q44, .inl (cI, 128, .inl (fun _ => 0))), (q52, .inl (cI, 16, .inl (fun _ => 0))), (q60, .inl (cI, 16, .inl (fun _ => 0)))]) inX3 rfl tyX3_ok nmX3 rfl 6 (by decide) rfl fl_X3_29 rfl rfl (by decide +kernel) rfl rfl (Nat.le_of_ble_eq_true rfl) dX3_init_62 ?_
  refine k_aload_n X (j := 0) dX3_init_65 rfl rfl ?_
  refine k_bipush X (v := 16) dX3_init_66 (by decide) ?_
  refine k_newI X (N := 16) dX3_init_68 (by decide) (by decide) (by decide) (Nat.le_of_ble_eq_true rfl) (Nat.le_of_ble_eq_true rfl) (fun q68 => ?_)
  refine k_eq (ws' := [(h0, .inr (3, [.ref q8, .ref q17, .ref q26, .ref q35, .ref q44, .ref q52, .ref q60, .null, .null, .null, .null, .null, .null, .int 0, .int 0, .int 0, .int 0, .null, .null, .null])), (q8, .inl (cZ, 1024, .inl (fun _ => 0))), (q17, .inl (cI, 128, .inl (fun _ => 0))), (q26, .inl (cZ, 512, .inl (fun _ => 0))), (q35, .inl (cI, 8192, .inl (fun _ => 0))), (q44, .inl (cI, 128, .inl (fun _ => 0))), (q52, .inl (cI, 16, .inl (fun _ => 0))), (q60, .inl (cI, 16, .inl (fun _ => 0))), (q68, .inl (cI, 16, .inl (fun _ => 0)))]) rfl ?_
  refine k_putF X (ci := 3) (q0 := 0) (ty := .array .int) (ws' := [(h0, .inr (3, [.ref q8, .ref q17, .ref q26, .ref q35, .ref q44, .ref q52, .ref q60, .ref q68, .null, .null, .null, .null, .null, .int 0, .int 0, .int 0, .int 0, .null, .null, .null])), (q8, .inl (cZ, 1024, .inl (fun _ => 0))), (q17, .inl (cI, 128, .inl (fun _ => 0))), (q26, .inl (cZ, 512, .inl (fun _ => 0))), (q35, .inl (cI, 8192, .inl (fun _ => 0))), (q44, .inl (cI, 128, .inl (fun _ => 0))), (q52, .inl (cI, 16, .inl (fun _ => 0))), (q60, .inl (cI, 16, .inl (fun _ => 0))), (q68, .inl (cI, 16, .inl (fun _ => 0)))]) inX3 rfl tyX3_ok nmX3 rfl 7 (by decide) rfl fl_X3_32 rfl rfl (by decide +kernel) rfl rfl (Nat.le_of_ble_eq_true rfl) dX3_init_70 ?_
  refine k_aload_n X (j := 0) dX3_init_73 rfl rfl ?_
  refine k_bipush X (v := 16) dX3_init_74 (by decide) ?_
  refine k_newI X (N := 16) dX3_init_76 (by decide) (by decide) (by decide) (Nat.le_of_ble_eq_true rfl) (Nat.le_of_ble_eq_true rfl) (fun q76 => ?_)
  refine k_eq (ws' := [(h0, .inr (3, [.ref q8, .ref q17, .ref q26, .ref q35, .ref q44, .ref q52, .ref q60, .ref q68, .null, .null, .null, .null, .null, .int 0, .int 0, .int 0, .int 0, .null, .null, .null])), (q8, .inl (cZ, 1024, .inl (fun _ => 0))), (q17, .inl (cI, 128, .inl (fun _ => 0))), (q26, .inl (cZ, 512, .inl (fun _ => 0))), (q35, .inl (cI, 8192, .inl (fun _ => 0))), (q44, .inl (cI, 128, .inl (fun _ => 0))), (q52, .inl (cI, 16, .inl (fun _ => 0))), (q60, .inl (cI, 16, .inl (fun _ => 0))), (q68, .inl (cI, 16, .inl (fun _ => 0))), (q76, .inl (cI, 16, .inl (fun _ => 0)))]) rfl ?_
  refine k_putF X (ci := 3) (q0 := 0) (ty := .array .int) (ws' := [(h0, .inr (3, [.ref q8, .ref q17, .ref q26, .ref q35, .ref q44, .ref q52, .ref q60, .ref q68, .ref q76, .null, .null, .null, .null, .int 0, .int 0, .int 0, .int 0, .null, .null, .null])), (q8, .inl (cZ, 1024, .inl (fun _ => 0))), (q17, .inl (cI, 128, .inl (fun _ => 0))), (q26, .inl (cZ, 512, .inl (fun _ => 0))), (q35, .inl (cI, 8192, .inl (fun _ => 0))), (q44, .inl (cI, 128, .inl (fun _ => 0))), (q52, .inl (cI, 16, .inl (fun _ => 0))), (q60, .inl (cI, 16, .inl (fun _ => 0))), (q68, .inl (cI, 16, .inl (fun _ => 0))), (q76, .inl (cI, 16, .inl (fun _ => 0)))]) inX3 rfl tyX3_ok nmX3 rfl 8 (by decide) rfl fl_X3_35 rfl rfl (by decide +kernel) rfl rfl (Nat.le_of_ble_eq_true rfl) dX3_init_78 ?_
  refine k_aload_n X (j := 0) dX3_init_81 rfl rfl ?_
  refine k_bipush X (v := 16) dX3_init_82 (by decide) ?_
  refine k_newI X (N := 16) dX3_init_84 (by decide) (by decide) (by decide) (Nat.le_of_ble_eq_true rfl) (Nat.le_of_ble_eq_true rfl) (fun q84 => ?_)
  refine k_eq (ws' := [(h0, .inr (3, [.ref q8, .ref q17, .ref q26, .ref q35, .ref q44, .ref q52, .ref q60, .ref q68, .ref q76, .null, .null, .null, .null, .int 0, .int 0, .int 0, .int 0, .null, .null, .null])), (q8, .inl (cZ, 1024, .inl (fun _ => 0))), (q17, .inl (cI, 128, .inl (fun _ => 0))), (q26, .inl (cZ, 512, .inl (fun _ => 0))), (q35, .inl (cI, 8192, .inl (fun _ => 0))), (q44, .inl (cI, 128, .inl (fun _ => 0))), (q52, .inl (cI, 16, .inl (fun _ => 0))), (q60, .inl (cI, 16, .inl (fun _ => 0))), (q68, .inl (cI, 16, .inl (fun _ => 0))), (q76, .inl (cI, 16, .inl (fun _ => 0))), (q84, .inl (cI, 16, .inl (fun _ => 0)))]) rfl ?_
  refine k_putF X (ci := 3) (q0 := 0) (ty := .array .int) (ws' := [(h0, .inr (3, [.ref q8, .ref q17, .ref q26, .ref q35, .ref q44, .ref q52, .ref q60, .ref q68, .ref q76, .ref q84, .null, .null, .null, .int 0, .int 0, .int 0, .int 0, .null, .null, .null])), (q8, .inl (cZ, 1024, .inl (fun _ => 0))), (q17, .inl (cI, 128, .inl (fun _ => 0))), (q26, .inl (cZ, 512, .inl (fun _ => 0))), (q35, .inl (cI, 8192, .inl (fun _ => 0))), (q44, .inl (cI, 128, .inl (fun _ => 0))), (q52, .inl (cI, 16, .inl (fun _ => 0))), (q60, .inl (cI, 16, .inl (fun _ => 0))), (q68, .inl (cI, 16, .inl (fun _ => 0))), (q76, .inl (cI, 16, .inl (fun _ => 0))), (q84, .inl (cI, 16, .inl (fun _ => 0)))]) inX3 rfl tyX3_ok nmX3 rfl 9 (by decide) rfl fl_X3_38 rfl rfl (by decide +kernel) rfl rfl (Nat.le_of_ble_eq_true rfl) dX3_init_86 ?_
  refine k_aload_n X (j := 0) dX3_init_89 rfl rfl ?_
  refine k_sipush X (v := 4096) dX3_init_90 (by decide) ?_
  refine k_newI X (N := 4096) dX3_init_93 (by decide) (by decide) (by decide) (Nat.le_of_ble_eq_true rfl) (Nat.le_of_ble_eq_true rfl) (fun q93 => ?_)
  refine k_eq (ws' := [(h0, .inr (3, [.ref q8, .ref q17, .ref q26, .ref q35, .ref q44, .ref q52, .ref q60, .ref q68, .ref q76, .ref q84, .null, .null, .null, .int 0, .int 0, .int 0, .int 0, .null, .null, .null])), (q8, .inl (cZ, 1024, .inl (fun _ => 0))), (q17, .inl (cI, 128, .inl (fun _ => 0))), (q26, .inl (cZ, 512, .inl (fun _ => 0))), (q35, .inl (cI, 8192, .inl (fun _ => 0))), (q44, .inl (cI, 128, .inl (fun _ => 0))), (q52, .inl (cI, 16, .inl (fun _ => 0))), (q60, .inl (cI, 16, .inl (fun _ => 0))), (q68, .inl (cI, 16, .inl (fun _ => 0))), (q76, .inl (cI, 16, .inl (fun _ => 0))), (q84, .inl (cI, 16, .inl (fun _ => 0))), (q93, .inl (cI, 4096, .inl (fun _ => 0)))]) rfl ?_
  refine k_putF X (ci := 3) (q0 := 0) (ty := .array .int) (ws' := [(h0, .inr (3, [.ref q8, .ref q17, .ref q26, .ref q35, .ref q44, .ref q52, .ref q60, .ref q68, .ref q76, .ref q84, .ref q93, .null, .null, .int 0, .int 0, .int 0, .int 0, .null, .null, .null])), (q8, .inl (cZ, 1024, .inl (fun _ => 0))), (q17, .inl (cI, 128, .inl (fun _ => 0))), (q26, .inl (cZ, 512, .inl (fun _ => 0))), (q35, .inl (cI, 8192, .inl (fun _ => 0))), (q44, .inl (cI, 128, .inl (fun _ => 0))), (q52, .inl (cI, 16, .inl (fun _ => 0))), (q60, .inl (cI, 16, .inl (fun _ => 0))), (q68, .inl (cI, 16, .inl (fun _ => 0))), (q76, .inl (cI, 16, .inl (fun _ => 0))), (q84, .inl (cI, 16, .inl (fun _ => 0))), (q93, .inl (cI, 4096, .inl (fun _ => 0)))]) inX3 rfl tyX3_ok nmX3 rfl 10 (by decide) rfl fl_X3_41 rfl rfl (by decide +kernel) rfl rfl (Nat.le_of_ble_eq_true rfl) dX3_init_95 ?_
  refine k_aload_n X (j := 0) dX3_init_98 rfl rfl ?_
  refine k_sipush X (v := 256) dX3_init_99 (by decide) ?_
  refine k_newI X (N := 256) dX3_init_102 (by decide) (by decide) (by decide) (Nat.le_of_ble_eq_true rfl) (Nat.le_of_ble_eq_true rfl) (fun q102 => ?_)
  refine k_eq (ws' := [(h0, .inr (3, [.ref q8, .ref q17, .ref q26, .ref q35, .ref q44, .ref q52, .ref q60, .ref q68, .ref q76, .ref q84, .ref q93, .null, .null, .int 0, .int 0, .int 0, .int 0, .null, .null, .null])), (q8, .inl (cZ, 1024, .inl (fun _ => 0))), (q17, .inl (cI, 128, .inl (fun _ => 0))), (q26, .inl (cZ, 512, .inl (fun _ => 0))), (q35, .inl (cI, 8192, .inl (fun _ => 0))), (q44, .inl (cI, 128, .inl (fun _ => 0))), (q52, .inl (cI, 16, .inl (fun _ => 0))), (q60, .inl (cI, 16, .inl (fun _ => 0))), (q68, .inl (cI, 16, .inl (fun _ => 0))), (q76, .inl (cI, 16, .inl (fun _ => 0))), (q84, .inl (cI, 16, .inl (fun _ => 0))), (q93, .inl (cI, 4096, .inl (fun _ => 0))), (q102, .inl (cI, 256, .inl (fun _ => 0)))]) rfl ?_
  refine k_putF X (ci := 3) (q0 := 0) (ty := .array .int) (ws' := [(h0, .inr (3, [.ref q8, .ref q17, .ref q26, .ref q35, .ref q44, .ref q52, .ref q60, .ref q68, .ref q76, .ref q84, .ref q93, .ref q102, .null, .int 0, .int 0, .int 0, .int 0, .null, .null, .null])), (q8, .inl (cZ, 1024, .inl (fun _ => 0))), (q17, .inl (cI, 128, .inl (fun _ => 0))), (q26, .inl (cZ, 512, .inl (fun _ => 0))), (q35, .inl (cI, 8192, .inl (fun _ => 0))), (q44, .inl (cI, 128, .inl (fun _ => 0))), (q52, .inl (cI, 16, .inl (fun _ => 0))), (q60, .inl (cI, 16, .inl (fun _ => 0))), (q68, .inl (cI, 16, .inl (fun _ => 0))), (q76, .inl (cI, 16, .inl (fun _ => 0))), (q84, .inl (cI, 16, .inl (fun _ => 0))), (q93, .inl (cI, 4096, .inl (fun _ => 0))), (q102, .inl (cI, 256, .inl (fun _ => 0)))]) inX3 rfl tyX3_ok nmX3 rfl 11 (by decide) rfl fl_X3_44 rfl rfl (by decide +kernel) rfl rfl (Nat.le_of_ble_eq_true rfl) dX3_init_104 ?_
  refine k_aload_n X (j := 0) dX3_init_107 rfl rfl ?_
  refine k_bipush X (v := 16) dX3_init_108 (by decide) ?_
  refine k_newI X (N := 16) dX3_init_110 (by decide) (by decide) (by decide) (Nat.le_of_ble_eq_true rfl) (Nat.le_of_ble_eq_true rfl) (fun q110 => ?_)
  refine k_eq (ws' := [(h0, .inr (3, [.ref q8, .ref q17, .ref q26, .ref q35, .ref q44, .ref q52, .ref q60, .ref q68, .ref q76, .ref q84, .ref q93, .ref q102, .null, .int 0, .int 0, .int 0, .int 0, .null, .null, .null])), (q8, .inl (cZ, 1024, .inl (fun _ => 0))), (q17, .inl (cI, 128, .inl (fun _ => 0))), (q26, .inl (cZ, 512, .inl (fun _ => 0))), (q35, .inl (cI, 8192, .inl (fun _ => 0))), (q44, .inl (cI, 128, .inl (fun _ => 0))), (q52, .inl (cI, 16, .inl (fun _ => 0))), (q60, .inl (cI, 16, .inl (fun _ => 0))), (q68, .inl (cI, 16, .inl (fun _ => 0))), (q76, .inl (cI, 16, .inl (fun _ => 0))), (q84, .inl (cI, 16, .inl (fun _ => 0))), (q93, .inl (cI, 4096, .inl (fun _ => 0))), (q102, .inl (cI, 256, .inl (fun _ => 0))), (q110, .inl (cI, 16, .inl (fun _ => 0)))]) rfl ?_
  refine k_putF X (ci := 3) (q0 := 0) (ty := .array .int) (ws' := [(h0, .inr (3, [.ref q8, .ref q17, .ref q26, .ref q35, .ref q44, .ref q52, .ref q60, .ref q68, .ref q76, .ref q84, .ref q93, .ref q102, .ref q110, .int 0, .int 0, .int 0, .int 0, .null, .null, .null])), (q8, .inl (cZ, 1024, .inl (fun _ => 0))), (q17, .inl (cI, 128, .inl (fun _ => 0))), (q26, .inl (cZ, 512, .inl (fun _ => 0))), (q35, .inl (cI, 8192, .inl (fun _ => 0))), (q44, .inl (cI, 128, .inl (fun _ => 0))), (q52, .inl (cI, 16, .inl (fun _ => 0))), (q60, .inl (cI, 16, .inl (fun _ => 0))), (q68, .inl (cI, 16, .inl (fun _ => 0))), (q76, .inl (cI, 16, .inl (fun _ => 0))), (q84, .inl (cI, 16, .inl (fun _ => 0))), (q93, .inl (cI, 4096, .inl (fun _ => 0))), (q102, .inl (cI, 256, .inl (fun _ => 0))), (q110, .inl (cI, 16, .inl (fun _ => 0)))]) inX3 rfl tyX3_ok nmX3 rfl 12 (by decide) rfl fl_X3_47 rfl rfl (by decide +kernel) rfl rfl (Nat.le_of_ble_eq_true rfl) dX3_init_112 ?_
  refine k_aload_n X (j := 0) dX3_init_115 rfl rfl ?_
  refine k_sipush X (v := 1024) dX3_init_116 (by decide) ?_
  refine k_newZ X (N := 1024) dX3_init_119 (by decide) (by decide) (by decide) (Nat.le_of_ble_eq_true rfl) (Nat.le_of_ble_eq_true rfl) (fun q119 => ?_)
  refine k_eq (ws' := [(h0, .inr (3, [.ref q8, .ref q17, .ref q26, .ref q35, .ref q44, .ref q52, .ref q60, .ref q68, .ref q76, .ref q84, .ref q93, .ref q102, .ref q110, .int 0, .int 0, .int 0, .int 0, .null, .null, .null])), (q8, .inl (cZ, 1024, .inl (fun _ => 0))), (q17, .inl (cI, 128, .inl (fun _ => 0))), (q26, .inl (cZ, 512, .inl (fun _ => 0))), (q35, .inl (cI, 8192, .inl (fun _ => 0))), (q44, .inl (cI, 128, .inl (fun _ => 0))), (q52, .inl (cI, 16, .inl (fun _ => 0))), (q60, .inl (cI, 16, .inl (fun _ => 0))), (q68, .inl (cI, 16, .inl (fun _ => 0))), (q76, .inl (cI, 16, .inl (fun _ => 0))), (q84, .inl (cI, 16, .inl (fun _ => 0))), (q93, .inl (cI, 4096, .inl (fun _ => 0))), (q102, .inl (cI, 256, .inl (fun _ => 0))), (q110, .inl (cI, 16, .inl (fun _ => 0))), (q119, .inl (cZ, 1024, .inl (fun _ => 0)))]) rfl ?_
  refine k_putF X (ci := 3) (q0 := 0) (ty := .array .boolean) (ws' := [(h0, .inr (3, [.ref q8, .ref q17, .ref q26, .ref q35, .ref q44, .ref q52, .ref q60, .ref q68, .ref q76, .ref q84, .ref q93, .ref q102, .ref q110, .int 0, .int 0, .int 0, .int 0, .ref q119, .null, .null])), (q8, .inl (cZ, 1024, .inl (fun _ => 0))), (q17, .inl (cI, 128, .inl (fun _ => 0))), (q26, .inl (cZ, 512, .inl (fun _ => 0))), (q35, .inl (cI, 8192, .inl (fun _ => 0))), (q44, .inl (cI, 128, .inl (fun _ => 0))), (q52, .inl (cI, 16, .inl (fun _ => 0))), (q60, .inl (cI, 16, .inl (fun _ => 0))), (q68, .inl (cI, 16, .inl (fun _ => 0))), (q76, .inl (cI, 16, .inl (fun _ => 0))), (q84, .inl (cI, 16, .inl (fun _ => 0))), (q93, .inl (cI, 4096, .inl (fun _ => 0))), (q102, .inl (cI, 256, .inl (fun _ => 0))), (q110, .inl (cI, 16, .inl (fun _ => 0))), (q119, .inl (cZ, 1024, .inl (fun _ => 0)))]) inX3 rfl tyX3_ok nmX3 rfl 17 (by decide) rfl fl_X3_50 rfl rfl (by decide +kernel) rfl rfl (Nat.le_of_ble_eq_true rfl) dX3_init_121 ?_
  refine k_aload_n X (j := 0) dX3_init_124 rfl rfl ?_
  refine k_sipush X (v := 128) dX3_init_125 (by decide) ?_
  refine k_newI X (N := 128) dX3_init_128 (by decide) (by decide) (by decide) (Nat.le_of_ble_eq_true rfl) (Nat.le_of_ble_eq_true rfl) (fun q128 => ?_)
  refine k_eq (ws' := [(h0, .inr (3, [.ref q8, .ref q17, .ref q26, .ref q35, .ref q44, .ref q52, .ref q60, .ref q68, .ref q76, .ref q84, .ref q93, .ref q102, .ref q110, .int 0, .int 0, .int 0, .int 0, .ref q119, .null, .null])), (q8, .inl (cZ, 1024, .inl (fun _ => 0))), (q17, .inl (cI, 128, .inl (fun _ => 0))), (q26, .inl (cZ, 512, .inl (fun _ => 0))), (q35, .inl (cI, 8192, .inl (fun _ => 0))), (q44, .inl (cI, 128, .inl (fun _ => 0))), (q52, .inl (cI, 16, .inl (fun _ => 0))), (q60, .inl (cI, 16, .inl (fun _ => 0))), (q68, .inl (cI, 16, .inl (fun _ => 0))), (q76, .inl (cI, 16, .inl (fun _ => 0))), (q84, .inl (cI, 16, .inl (fun _ => 0))), (q93, .inl (cI, 4096, .inl (fun _ => 0))), (q102, .inl (cI, 256, .inl (fun _ => 0))), (q110, .inl (cI, 16, .inl (fun _ => 0))), (q119, .inl (cZ, 1024, .inl (fun _ => 0))), (q128, .inl (cI, 128, .inl (fun _ => 0)))]) rfl ?_
  refine k_putF X (ci := 3) (q0 := 0) (ty := .array .int) (ws' := [(h0, .inr (3, [.ref q8, .ref q17, .ref q26, .ref q35, .ref q44, .ref q52, .ref q60, .ref q68, .ref q76, .ref q84, .ref q93, .ref q102, .ref q110, .int 0, .int 0, .int 0, .int 0, .ref q119, .ref q128, .null])), (q8, .inl (cZ, 1024, .inl (fun _ => 0))), (q17, .inl (cI, 128, .inl (fun _ => 0))), (q26, .inl (cZ, 512, .inl (fun _ => 0))), (q35, .inl (cI, 8192, .inl (fun _ => 0))), (q44, .inl (cI, 128, .inl (fun _ => 0))), (q52, .inl (cI, 16, .inl (fun _ => 0))), (q60, .inl (cI, 16, .inl (fun _ => 0))), (q68, .inl (cI, 16, .inl (fun _ => 0))), (q76, .inl (cI, 16, .inl (fun _ => 0))), (q84, .inl (cI, 16, .inl (fun _ => 0))), (q93, .inl (cI, 4096, .inl (fun _ => 0))), (q102, .inl (cI, 256, .inl (fun _ => 0))), (q110, .inl (cI, 16, .inl (fun _ => 0))), (q119, .inl (cZ, 1024, .inl (fun _ => 0))), (q128, .inl (cI, 128, .inl (fun _ => 0)))]) inX3 rfl tyX3_ok nmX3 rfl 18 (by decide) rfl fl_X3_53 rfl rfl (by decide +kernel) rfl rfl (Nat.le_of_ble_eq_true rfl) dX3_init_130 ?_
  refine k_aload_n X (j := 0) dX3_init_133 rfl rfl ?_
  refine k_sipush X (v := 512) dX3_init_134 (by decide) ?_
  refine k_newZ X (N := 512) dX3_init_137 (by decide) (by decide) (by decide) (Nat.le_of_ble_eq_true rfl) (Nat.le_of_ble_eq_true rfl) (fun q137 => ?_)
  refine k_eq (ws' := [(h0, .inr (3, [.ref q8, .ref q17, .ref q26, .ref q35, .ref q44, .ref q52, .ref q60, .ref q68, .ref q76, .ref q84, .ref q93, .ref q102, .ref q110, .int 0, .int 0, .int 0, .int 0, .ref q119, .ref q128, .null])), (q8, .inl (cZ, 1024, .inl (fun _ => 0))), (q17, .inl (cI, 128, .inl (fun _ => 0))), (q26, .inl (cZ, 512, .inl (fun _ => 0))), (q35, .inl (cI, 8192, .inl (fun _ => 0))), (q44, .inl (cI, 128, .inl (fun _ => 0))), (q52, .inl (cI, 16, .inl (fun _ => 0))), (q60, .inl (cI, 16, .inl (fun _ => 0))), (q68, .inl (cI, 16, .inl (fun _ => 0))), (q76, .inl (cI, 16, .inl (fun _ => 0))), (q84, .inl (cI, 16, .inl (fun _ => 0))), (q93, .inl (cI, 4096, .inl (fun _ => 0))), (q102, .inl (cI, 256, .inl (fun _ => 0))), (q110, .inl (cI, 16, .inl (fun _ => 0))), (q119, .inl (cZ, 1024, .inl (fun _ => 0))), (q128, .inl (cI, 128, .inl (fun _ => 0))), (q137, .inl (cZ, 512, .inl (fun _ => 0)))]) rfl ?_
  refine k_putF X (ci := 3) (q0 := 0) (ty := .array .boolean) (ws' := [(h0, .inr (3, [.ref q8, .ref q17, .ref q26, .ref q35, .ref q44, .ref q52, .ref q60, .ref q68, .ref q76, .ref q84, .ref q93, .ref q102, .ref q110, .int 0, .int 0, .int 0, .int 0, .ref q119, .ref q128, .ref q137])), (q8, .inl (cZ, 1024, .inl (fun _ => 0))), (q17, .inl (cI, 128, .inl (fun _ => 0))), (q26, .inl (cZ, 512, .inl (fun _ => 0))), (q35, .inl (cI, 8192, .inl (fun _ => 0))), (q44, .inl (cI, 128, .inl (fun _ => 0))), (q52, .inl (cI, 16, .inl (fun _ => 0))), (q60, .inl (cI, 16, .inl (fun _ => 0))), (q68, .inl (cI, 16, .inl (fun _ => 0))), (q76, .inl (cI, 16, .inl (fun _ => 0))), (q84, .inl (cI, 16, .inl (fun _ => 0))), (q93, .inl (cI, 4096, .inl (fun _ => 0))), (q102, .inl (cI, 256, .inl (fun _ => 0))), (q110, .inl (cI, 16, .inl (fun _ => 0))), (q119, .inl (cZ, 1024, .inl (fun _ => 0))), (q128, .inl (cI, 128, .inl (fun _ => 0))), (q137, .inl (cZ, 512, .inl (fun _ => 0)))]) inX3 rfl tyX3_ok nmX3 rfl 19 (by decide) rfl fl_X3_56 rfl rfl (by decide +kernel) rfl rfl (Nat.le_of_ble_eq_true rfl) dX3_init_139 ?_
  refine k_aload_n X (j := 0) dX3_init_142 rfl rfl ?_
  refine k_get X (ci := 3) (q0 := 0) (v := .ref q8) inX3 rfl rfl 0 (by decide) rfl fl_X3_7 dX3_init_143 ?_
  refine k_sipush X (v := 896) dX3_init_146 (by decide) ?_
  refine k_iconst X (v := 1) dX3_init_149 (by decide) ?_
  refine k_zast X (q0 := 1) (ws' := [(h0, .inr (3, [.ref q8, .ref q17, .ref q26, .ref q35, .ref q44, .ref q52, .ref q60, .ref q68, .ref q76, .ref q84, .ref q93, .ref q102, .ref q110, .int 0, .int 0, .int 0, .int 0, .ref q119, .ref q128, .ref q137])), (q8, .inl (cZ, 1024, .inl (upd (fun _ => 0) 896 1))), (q17, .inl (cI, 128, .inl (fun _ => 0))), (q26, .inl (cZ, 512, .inl (fun _ => 0))), (q35, .inl (cI, 8192, .inl (fun _ => 0))), (q44, .inl (cI, 128, .inl (fun _ => 0))), (q52, .inl (cI, 16, .inl (fun _ => 0))), (q60, .inl (cI, 16, .inl (fun _ => 0))), (q68, .inl (cI, 16, .inl (fun _ => 0))), (q76, .inl (cI, 16, .inl (fun _ => 0))), (q84, .inl (cI, 16, .inl (fun _ => 0))), (q93, .inl (cI, 4096, .inl (fun _ => 0))), (q102, .inl (cI, 256, .inl (fun _ => 0))), (q110, .inl (cI, 16, .inl (fun _ => 0))), (q119, .inl (cZ, 1024, .inl (fun _ => 0))), (q128, .inl (cI, 128, .inl (fun _ => 0))), (q137, .inl (cZ, 512, .inl (fun _ => 0)))]) rfl (vp_in_iff.mpr (by decide)) (by decide) rfl dX3_init_150 ?_
  refine k_iconst X (v := 0) dX3_init_151 (by decide) ?_
  refine k_istore_n X (lv' := [(1, .int 0), (0, .ref h0)]) dX3_init_152 rfl (by decide) rfl ?_
  refine k_eq (ws' := [(h0, .inr (3, [.ref q8, .ref q17, .ref q26, .ref q35, .ref q44, .ref q52, .ref q60, .ref q68, .ref q76, .ref q84, .ref q93, .ref q102, .ref q110, .int 0, .int 0, .int 0, .int 0, .ref q119, .ref q128, .ref q137])), (q8, .inl (cZ, 1024, .inl (upd (fun _ => 0) 896 1))), (q17, .inl (cI, 128, .inl (fun _ => 0))), (q26, .inl (cZ, 512, .inl (fun _ => 0))), (q35, .inl (cI, 8192, .inl (fun _ => 0))), (q44, .inl (cI, 128, .inl (flm 0))), (q52, .inl (cI, 16, .inl (fun _ => 0))), (q60, .inl (cI, 16, .inl (fun _ => 0))), (q68, .inl (cI, 16, .inl (fun _ => 0))), (q76, .inl (cI, 16, .inl (fun _ => 0))), (q84, .inl (cI, 16, .inl (fun _ => 0))), (q93, .inl (cI, 4096, .inl (fun _ => 0))), (q102, .inl (cI, 256, .inl (fun _ => 0))), (q110, .inl (cI, 16, .inl (fun _ => 0))), (q119, .inl (cZ, 1024, .inl (fun _ => 0))), (q128, .inl (cI, 128, .inl (fun _ => 0))), (q137, .inl (cZ, 512, .inl (fun _ => 0)))]) (by rw [flm_0]) ?_
  refine k_sub (lv' := [(0, .ref h0), (1, .int (nI 0))]) [1, 0] rfl ?_
  refine cl_X3_init_153 l D cI cZ X h0 q8 q17 q26 q35 q44 q52 q60 q68 q76 q84 q93 q102 q110 q119 q128 q137 ?_ 128 0 (by decide) (by decide)
  exact k_ret X rfl (fun k => [h0, q8, q17, q26, q35, q44, q52, q60, q68, q76, q84, q93, q102, q110, q119, q128, q137].getD k 0) rfl dX3_init_173
