set_option maxHeartbeats 8000000 in
set_option maxRecDepth 100000 in
/-- the law from its entry, once the models do alike -/
theorem start_of_sim {Rel : KS → KS → Prop} (hsim : Sim Rel) (h0 : Rel sX0 sM0) {p : Program} {e : Env} {s : State} {m : MethodId} {below : List Frame} {meth : Method} {c : Code} (l : Launch) {b L : Nat} {xs : Nat → Int32} (hL : L ≤ 2048) (C0 : lw_At p s m meth c b L xs) : W p l e room_1 s m #[Value.ref b] below meth c s.heap [] 0 0 (lw_Z below #[Value.ref b] s) (entryFrame m ([Value.ref b] : List Value).toArray 4) := by
  obtain ⟨hx, hb, hr, hml, hown, hts0, hX, hbl, hlocks, hgv⟩ := id C0
  have hts : ∀ w ∈ wA, w.before #[Value.ref b] s = true := fun w h => hts0 w (wA_in w h)
  obtain ⟨c0, iS0, hKn0⟩ := u_known (C := RX0) (T := TX0) (N := 2) (n := 2) hts inX0 (hts _ ia_X0)
  obtain ⟨c1, iS1, hKn1⟩ := u_known (C := RX1) (T := TX1) (N := 2) (n := 2) hts inX1 (hts _ ia_X1)
  obtain ⟨c2, iS2, hKn2⟩ := u_known (C := RX2) (T := TX2) (N := 16) (n := 16) hts inX2 (hts _ ia_X2)
  obtain ⟨c3, iS3, hKn3⟩ := u_known (C := RX3) (T := TX3) (N := 20) (n := 20) hts inX3 (hts _ ia_X3)
  obtain ⟨cI, kI, coI, hI1, hI2, hI3⟩ := Cond.arrayClass_spec (hts _ ac_int)
  obtain ⟨cZ, kZ, coZ, hZ1, hZ2, hZ3⟩ := Cond.arrayClass_spec (hts _ ac_boolean)
  obtain ⟨dC, dI, hKc⟩ : ∃ (dC : Nat → ClassId) (dI : Nat → Nat → Nat), ∀ (k : Nat) (q : vw_C), vwCl[k]? = some q → u_Kn s q.1 q.2.1 q.2.2 (dC k) (dI k) := by
    refine ⟨fun k => if k = 0 then c0 else if k = 1 then c1 else if k = 2 then c2 else c3, fun k => if k = 0 then iS0 else if k = 1 then iS1 else if k = 2 then iS2 else iS3, ?_⟩
    intro k q hq
    match k, hq with
    | 0, hq => cases hq; exact hKn0
    | 1, hq => cases hq; exact hKn1
    | 2, hq => cases hq; exact hKn2
    | 3, hq => cases hq; exact hKn3
    | k + 4, hq => simp [vwCl] at hq
  have hK : va_K (dC, dI) vwCl (tyA cI cZ) s := by
    refine ⟨hKc, fun k q h => ?_⟩
    match k, h with
    | 0, h => cases h; exact ⟨fun n z => ⟨fun k h => (by cases h), kI, hI2, coI, hI3⟩, hI1⟩
    | 1, h => cases h; exact ⟨fun n z => ⟨fun k h => (by cases h), kZ, hZ2, coZ, hZ3⟩, hZ1⟩
    | k + 2, h => simp at h
  have hN : nst s := ⟨va_Nw.of rfl (hts0 _ (List.mem_of_getElem? (i := 170) (by decide +kernel))), va_Nw.of rfl (hts0 _ (List.mem_of_getElem? (i := 177) (by decide +kernel))), va_Nw.of rfl (hts0 _ (List.mem_of_getElem? (i := 184) (by decide +kernel)))⟩
  have X : CI p s m #[Value.ref b] meth c cL_law 4 RL (dC, dI) cI cZ (fun q : Nat => s.heap.size ≤ q) false := ⟨⟨hx, hb, hml, hown, hts⟩, hK, fun _ h => h, hlocks, fun h => by cases h⟩
  have hP : va_P (dC, dI) vwCl [] s.heap := fun k q h => by simp at h
  have hD : va_D (fun q : Nat => s.heap.size ≤ q) [] := ⟨fun i j p q h => by simp at h, fun k q h => by simp at h⟩
  have hl := lv_entry ([.ref b]) (n := 4) (Nat.le_of_ble_eq_true rfl)
  rw [lg_entry_eq]
  suffices hc : Cc p l e room_1 s m #[Value.ref b] below meth c 4 (dC, dI) (fun q : Nat => s.heap.size ≤ q) (lw_Z below #[Value.ref b] s) 0 [(0, .ref b)] [] [] 0 0 from hc _ _ _ hl hP hD va_S.rf
  refine k_new X (ci := 2) (fs := [.null, .null, .null, .null, .null, .null, .null, .null, .null, .null, .null, .null, .int 0, .int 0, .int 0, .int 0]) inX2 rfl tyX2_ok cl_L_7 ia_X2 ii_X2 (fun j hj => by rcases (show j = 0 ∨ j = 1 ∨ j = 2 ∨ j = 3 ∨ j = 4 ∨ j = 5 ∨ j = 6 ∨ j = 7 ∨ j = 8 ∨ j = 9 ∨ j = 10 ∨ j = 11 ∨ j = 12 ∨ j = 13 ∨ j = 14 ∨ j = 15 by omega) with rfl | rfl | rfl | rfl | rfl | rfl | rfl | rfl | rfl | rfl | rfl | rfl | rfl | rfl | rfl | rfl <;> rfl) (Nat.le_of_ble_eq_true rfl) (Nat.le_of_ble_eq_true rfl) dL_law_0 (fun x0 => ?_)
  refine k_eq (ws' := [(x0, .inr (2, [.null, .null, .null, .null, .null, .null, .null, .null, .null, .null, .null, .null, .int 0, .int 0, .int 0, .int 0]))]) rfl ?_
  refine k_dup X dL_law_3 rfl ?_
  refine k_ctor X hN (n := 0) (wr := []) (As := []) (st := [.ref x0]) (fun sz => c_X2_init l (dC, dI) cI cZ x0 sz) ml_L_9 im_X2_init ii_X2 co_X2_init rfl rfl rfl (by decide +kernel) ⟨Nat.le_of_ble_eq_true rfl, Nat.le_of_ble_eq_true rfl⟩ [0] [] rfl rfl (by decide) (by decide) (by decide) rfl rfl (Nat.le_of_ble_eq_true rfl) dL_law_4 ⟨Nat.le_of_ble_eq_true rfl, Nat.le_of_ble_eq_true rfl⟩ (fun u1 => ?_)
  generalize hα : va_up u1 0 x0 = α
  have e0 : x0 = α 0 := by rw [← hα]; rfl
  subst e0
  refine k_eq (ws' := kwX cI α sX0) rfl ?_
  refine k_astore_n X (lv' := [(1, .ref (α 0)), (0, .ref b)]) dL_law_7 rfl (by decide) rfl ?_
  refine k_new X (ci := 3) (fs := [.null, .null, .null, .null, .null, .null, .null, .null, .null, .null, .null, .null, .null, .int 0, .int 0, .int 0, .int 0, .null, .null, .null]) inX3 rfl tyX3_ok cl_L_10 ia_X3 ii_X3 (fun j hj => by rcases (show j = 0 ∨ j = 1 ∨ j = 2 ∨ j = 3 ∨ j = 4 ∨ j = 5 ∨ j = 6 ∨ j = 7 ∨ j = 8 ∨ j = 9 ∨ j = 10 ∨ j = 11 ∨ j = 12 ∨ j = 13 ∨ j = 14 ∨ j = 15 ∨ j = 16 ∨ j = 17 ∨ j = 18 ∨ j = 19 by omega) with rfl | rfl | rfl | rfl | rfl | rfl | rfl | rfl | rfl | rfl | rfl | rfl | rfl | rfl | rfl | rfl | rfl | rfl | rfl | rfl <;> rfl) (Nat.le_of_ble_eq_true rfl) (Nat.le_of_ble_eq_true rfl) dL_law_8 (fun y0 => ?_)
  refine k_dup X dL_law_11 rfl ?_
  refine k_ctor X hN (n := 0) (wr := kwX cI α sX0) (As := []) (st := [.ref y0]) (fun sz => c_X3_init l (dC, dI) cI cZ y0 sz) ml_L_12 im_X3_init ii_X3 co_X3_init rfl rfl rfl (by decide +kernel) ⟨Nat.le_of_ble_eq_true rfl, Nat.le_of_ble_eq_true rfl⟩ [17] [0, 1, 2, 3, 4, 5, 6, 7, 8, 9, 10, 11, 12, 13, 14, 15, 16] rfl rfl (by decide) (by decide) (by decide) rfl rfl (Nat.le_of_ble_eq_true rfl) dL_law_12 ⟨Nat.le_of_ble_eq_true rfl, Nat.le_of_ble_eq_true rfl⟩ (fun u2 => ?_)
  generalize hβ : va_up u2 0 y0 = β
  have e0 : y0 = β 0 := by rw [← hβ]; rfl
  subst e0
  refine k_astore_n X (lv' := [(2, .ref (β 0)), (1, .ref (α 0)), (0, .ref b)]) dL_law_15 rfl (by decide) rfl ?_
  refine k_iconst X (v := 0) dL_law_16 (by decide) ?_
  refine k_istore_n X (lv' := [(3, .int 0), (2, .ref (β 0)), (1, .ref (α 0)), (0, .ref b)]) dL_law_17 rfl (by decide) rfl ?_
  refine k_sub (lv' := [(0, .ref b), (1, .ref (α 0)), (2, .ref (β 0)), (3, .int (nI 0))]) [3, 2, 1, 0] rfl ?_
  intro ls H locs hl hP hD hS
  have XL : LX p s m meth c b L xs (dC, dI) cI cZ α β := ⟨⟨hx, hb, hml, hown, hts⟩, hK, hN, hX, hbl, hlocks, hr, hD⟩
  exact law_loop hsim l hL XL (L + 1) 0 (Nat.zero_le _) (by omega) sX0 sM0 h0 ls H locs hl (fun k q hk => hP k q (by rw [List.getElem?_append_left (List.getElem?_eq_some_iff.mp hk).1]; exact hk)) (fun k q hk => hP (17 + k) q (by rw [List.getElem?_append_right (show (kwX cI α sX0).length ≤ 17 + k from by show 17 ≤ 17 + k; omega), show 17 + k - (kwX cI α sX0).length = k from by show 17 + k - 17 = k; omega]; exact hk)) hS
