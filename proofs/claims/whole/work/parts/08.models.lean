/-! the models of the methods, by program out of the bytecode -/
def m_J6_bitCount_0f7a4 (x0 : Int32) (σ : KS) : KR :=
    some (((((((((x0 - (((x0.toUInt32 >>> ((1 : Int32).toUInt32 &&& Int32.toUInt32 31)).toInt32) &&& 1431655765)) &&& 858993459) + ((((x0 - (((x0.toUInt32 >>> ((1 : Int32).toUInt32 &&& Int32.toUInt32 31)).toInt32) &&& 1431655765)).toUInt32 >>> ((2 : Int32).toUInt32 &&& Int32.toUInt32 31)).toInt32) &&& 858993459)) + (((((x0 - (((x0.toUInt32 >>> ((1 : Int32).toUInt32 &&& Int32.toUInt32 31)).toInt32) &&& 1431655765)) &&& 858993459) + ((((x0 - (((x0.toUInt32 >>> ((1 : Int32).toUInt32 &&& Int32.toUInt32 31)).toInt32) &&& 1431655765)).toUInt32 >>> ((2 : Int32).toUInt32 &&& Int32.toUInt32 31)).toInt32) &&& 858993459)).toUInt32 >>> ((4 : Int32).toUInt32 &&& Int32.toUInt32 31)).toInt32)) &&& 252645135) + (((((((x0 - (((x0.toUInt32 >>> ((1 : Int32).toUInt32 &&& Int32.toUInt32 31)).toInt32) &&& 1431655765)) &&& 858993459) + ((((x0 - (((x0.toUInt32 >>> ((1 : Int32).toUInt32 &&& Int32.toUInt32 31)).toInt32) &&& 1431655765)).toUInt32 >>> ((2 : Int32).toUInt32 &&& Int32.toUInt32 31)).toInt32) &&& 858993459)) + (((((x0 - (((x0.toUInt32 >>> ((1 : Int32).toUInt32 &&& Int32.toUInt32 31)).toInt32) &&& 1431655765)) &&& 858993459) + ((((x0 - (((x0.toUInt32 >>> ((1 : Int32).toUInt32 &&& Int32.toUInt32 31)).toInt32) &&& 1431655765)).toUInt32 >>> ((2 : Int32).toUInt32 &&& Int32.toUInt32 31)).toInt32) &&& 858993459)).toUInt32 >>> ((4 : Int32).toUInt32 &&& Int32.toUInt32 31)).toInt32)) &&& 252645135).toUInt32 >>> ((8 : Int32).toUInt32 &&& Int32.toUInt32 31)).toInt32)) + ((((((((x0 - (((x0.toUInt32 >>> ((1 : Int32).toUInt32 &&& Int32.toUInt32 31)).toInt32) &&& 1431655765)) &&& 858993459) + ((((x0 - (((x0.toUInt32 >>> ((1 : Int32).toUInt32 &&& Int32.toUInt32 31)).toInt32) &&& 1431655765)).toUInt32 >>> ((2 : Int32).toUInt32 &&& Int32.toUInt32 31)).toInt32) &&& 858993459)) + (((((x0 - (((x0.toUInt32 >>> ((1 : Int32).toUInt32 &&& Int32.toUInt32 31)).toInt32) &&& 1431655765)) &&& 858993459) + ((((x0 - (((x0.toUInt32 >>> ((1 : Int32).toUInt32 &&& Int32.toUInt32 31)).toInt32) &&& 1431655765)).toUInt32 >>> ((2 : Int32).toUInt32 &&& Int32.toUInt32 31)).toInt32) &&& 858993459)).toUInt32 >>> ((4 : Int32).toUInt32 &&& Int32.toUInt32 31)).toInt32)) &&& 252645135) + (((((((x0 - (((x0.toUInt32 >>> ((1 : Int32).toUInt32 &&& Int32.toUInt32 31)).toInt32) &&& 1431655765)) &&& 858993459) + ((((x0 - (((x0.toUInt32 >>> ((1 : Int32).toUInt32 &&& Int32.toUInt32 31)).toInt32) &&& 1431655765)).toUInt32 >>> ((2 : Int32).toUInt32 &&& Int32.toUInt32 31)).toInt32) &&& 858993459)) + (((((x0 - (((x0.toUInt32 >>> ((1 : Int32).toUInt32 &&& Int32.toUInt32 31)).toInt32) &&& 1431655765)) &&& 858993459) + ((((x0 - (((x0.toUInt32 >>> ((1 : Int32).toUInt32 &&& Int32.toUInt32 31)).toInt32) &&& 1431655765)).toUInt32 >>> ((2 : Int32).toUInt32 &&& Int32.toUInt32 31)).toInt32) &&& 858993459)).toUInt32 >>> ((4 : Int32).toUInt32 &&& Int32.toUInt32 31)).toInt32)) &&& 252645135).toUInt32 >>> ((8 : Int32).toUInt32 &&& Int32.toUInt32 31)).toInt32)).toUInt32 >>> ((16 : Int32).toUInt32 &&& Int32.toUInt32 31)).toInt32)) &&& 63), σ)
def f_X1r_leastWithRoom_2 : Nat → Int32 → KS → KR
  | 0, _, _ => none
  | n + 1, x1, σ =>
    if 128 ≤ x1 then
    some ((-1), σ)
    else chk x1 128 (if (rd σ 6 x1) = 0 then
    f_X1r_leastWithRoom_2 n (x1 + 1) σ
    else chk x1 128 (if (rd σ 6 x1) = 15 then
    f_X1r_leastWithRoom_2 n (x1 + 1) σ
    else some (x1, σ)))
def m_X1r_leastWithRoom (σ : KS) : KR :=
    f_X1r_leastWithRoom_2 FU 0 σ
def f_X1t_leastWithRoom_2 : Nat → Int32 → KS → KR
  | 0, _, _ => none
  | n + 1, x1, σ =>
    if 128 ≤ x1 then
    some ((-1), σ)
    else chk x1 128 (if (rd σ 7 x1) = 0 then
    f_X1t_leastWithRoom_2 n (x1 + 1) σ
    else chk x1 128 (if (rd σ 7 x1) = 15 then
    f_X1t_leastWithRoom_2 n (x1 + 1) σ
    else some (x1, σ)))
def m_X1t_leastWithRoom (σ : KS) : KR :=
    f_X1t_leastWithRoom_2 FU 0 σ
def f_X2_childrenOf_4 : Nat → Int32 → Int32 → Int32 → KS → KR
  | 0, _, _, _, _ => none
  | n + 1, x1, x2, x3, σ =>
    if 16 ≤ x3 then
    some (x2, σ)
    else chk x3 16 (if (rd σ 12 x3) = x1 then
    f_X2_childrenOf_4 n x1 (x2 + 1) (x3 + 1) σ
    else f_X2_childrenOf_4 n x1 x2 (x3 + 1) σ)
def m_X2_childrenOf (x1 : Int32) (σ : KS) : KR :=
    f_X2_childrenOf_4 FU x1 0 0 σ
def f_X2_countInState_4 : Nat → Int32 → Int32 → Int32 → KS → KR
  | 0, _, _, _, _ => none
  | n + 1, x1, x2, x3, σ =>
    if 16 ≤ x3 then
    some (x2, σ)
    else chk x3 16 (if (rd σ 11 x3) = x1 then
    f_X2_countInState_4 n x1 (x2 + 1) (x3 + 1) σ
    else f_X2_countInState_4 n x1 x2 (x3 + 1) σ)
def m_X2_countInState (x1 : Int32) (σ : KS) : KR :=
    f_X2_countInState_4 FU x1 0 0 σ
def m_X2_current (σ : KS) : KR :=
    if (gv σ 0) = 0 then
    some ((-1), σ)
    else chk 0 16 (some ((rd σ 16 0), σ))
def m_X2_isFrame (x0 : Int32) (σ : KS) : KR :=
    if x0 < 0 then
    some (0, σ)
    else if 128 ≤ x0 then
    some (0, σ)
    else some (1, σ)
def m_X2_isNumber (x0 : Int32) (σ : KS) : KR :=
    if x0 < 0 then
    some (0, σ)
    else if 16 ≤ x0 then
    some (0, σ)
    else some (1, σ)
def m_X2_isOrder (x0 : Int32) (σ : KS) : KR :=
    if x0 < 0 then
    some (0, σ)
    else if 7 < x0 then
    some (0, σ)
    else some (1, σ)
def m_X2_joinRow (x1 : Int32) (σ : KS) : KR :=
    if 16 ≤ (gv σ 0) then
    some (0, σ)
    else chk (gv σ 0) 16 (some (0, (sv (wr σ 16 (gv σ 0) x1) 0 ((gv (wr σ 16 (gv σ 0) x1) 0) + 1))))
def f_X2_leastUnused_2 : Nat → Int32 → KS → KR
  | 0, _, _ => none
  | n + 1, x1, σ =>
    if 16 ≤ x1 then
    some ((-1), σ)
    else chk x1 16 (if (rd σ 11 x1) = 0 then
    some (x1, σ)
    else f_X2_leastUnused_2 n (x1 + 1) σ)
def m_X2_leastUnused (σ : KS) : KR :=
    f_X2_leastUnused_2 FU 0 σ
def f_X2_leaveRow_4 : Nat → Int32 → Int32 → Int32 → KS → KR
  | 0, _, _, _, _ => none
  | n + 1, x1, x2, x3, σ =>
    if (gv σ 0) ≤ x3 then
    some (0, (sv σ 0 x2))
    else chk x3 16 (if (rd σ 16 x3) = x1 then
    f_X2_leaveRow_4 n x1 x2 (x3 + 1) σ
    else chk x3 16 (chk x2 16 (f_X2_leaveRow_4 n x1 (x2 + 1) (x3 + 1) (wr σ 16 x2 (rd σ 16 x3)))))
def m_X2_leaveRow (x1 : Int32) (σ : KS) : KR :=
    f_X2_leaveRow_4 FU x1 0 0 σ
def m_X2_pageOf (x0 : Int32) (σ : KS) : KR :=
    some ((x0 >>> (6 &&& 31)), σ)
def f_X2_placeInRow_2 : Nat → Int32 → Int32 → KS → KR
  | 0, _, _, _ => none
  | n + 1, x1, x2, σ =>
    if (gv σ 0) ≤ x2 then
    some ((-1), σ)
    else chk x2 16 (if (rd σ 16 x2) = x1 then
    some (x2, σ)
    else f_X2_placeInRow_2 n x1 (x2 + 1) σ)
def m_X2_placeInRow (x1 : Int32) (σ : KS) : KR :=
    f_X2_placeInRow_2 FU x1 0 σ
def m_X2_refuse (σ : KS) : KR :=
    some ((-3), (sv σ 2 ((gv σ 2) + 1)))
def m_X2_setWord (x1 x2 : Int32) (σ : KS) : KR :=
    if x1 < 0 then
    some (0, σ)
    else if 8192 ≤ x1 then
    some (0, σ)
    else chk x1 8192 (some (0, (wr σ 8 x1 x2)))
def m_X2_tableIndex (x1 x2 : Int32) (σ : KS) : KR :=
    chk x1 16 (some ((((rd σ 15 x1) * 16) + (x2 / 16)), σ))
def m_X2_wordAt (x1 : Int32) (σ : KS) : KR :=
    if x1 < 0 then
    some (0, σ)
    else if 8192 ≤ x1 then
    some (0, σ)
    else chk x1 8192 (some ((rd σ 8 x1), σ))
def m_X0_countOf (x1 : Int32) (σ : KS) : KR :=
    bnd (m_X2_isOrder x1 σ) (fun r_1 σ_1 => if r_1 = 0 then
    some (0, σ_1)
    else chk x1 8 (some ((rd σ_1 5 x1), σ_1)))
def m_X0_isFreeBlock (x1 x2 : Int32) (σ : KS) : KR :=
    bnd (m_X2_isFrame x1 σ) (fun r_1 σ_1 => if r_1 = 0 then
    some (0, σ_1)
    else chk x1 128 (if (rd σ_1 4 x1) = x2 then
    some (1, σ_1)
    else some (0, σ_1)))
def f_X0_leastOf_20 : Nat → Int32 → Int32 → KS → KR
  | 0, _, _, _ => none
  | n + 1, x1, x2, σ =>
    if 128 ≤ x2 then
    some ((-1), σ)
    else chk x2 128 (if (rd σ 4 x2) = x1 then
    some (x2, σ)
    else f_X0_leastOf_20 n x1 (x2 + ((1 : Int32) <<< (x1 &&& 31))) σ)
def m_X0_leastOf (x1 : Int32) (σ : KS) : KR :=
    bnd (m_X2_isOrder x1 σ) (fun r_1 σ_1 => if r_1 = 0 then
    some ((-1), σ_1)
    else chk x1 8 (if (rd σ_1 5 x1) = 0 then
    some ((-1), σ_1)
    else f_X0_leastOf_20 FU x1 0 σ_1))
def m_X0_leaveOut (x1 x2 : Int32) (σ : KS) : KR :=
    bnd (m_X2_isFrame x1 σ) (fun r_1 σ_1 => if r_1 = 0 then
    some (0, σ_1)
    else bnd (m_X2_isOrder x2 σ_1) (fun r_8 σ_8 => if r_8 = 0 then
    some (0, σ_8)
    else chk x1 128 (chk x2 8 (chk x2 8 (some (0, (wr (wr σ_8 4 x1 (-1)) 5 x2 ((rd (wr σ_8 4 x1 (-1)) 5 x2) - 1))))))))
def m_X0_putIn (x1 x2 : Int32) (σ : KS) : KR :=
    bnd (m_X2_isFrame x1 σ) (fun r_1 σ_1 => if r_1 = 0 then
    some (0, σ_1)
    else bnd (m_X2_isOrder x2 σ_1) (fun r_8 σ_8 => if r_8 = 0 then
    some (0, σ_8)
    else chk x1 128 (chk x2 8 (chk x2 8 (some (0, (wr (wr σ_8 4 x1 x2) 5 x2 ((rd (wr σ_8 4 x1 x2) 5 x2) + 1))))))))
def m_X1r_countIn (x1 : Int32) (σ : KS) : KR :=
    bnd (m_X2_isFrame x1 σ) (fun r_1 σ_1 => if r_1 = 0 then
    some (0, σ_1)
    else chk x1 128 (bnd (m_J6_bitCount_0f7a4 (rd σ_1 6 x1) σ_1) (fun r_13 σ_13 => some (r_13, σ_13))))
def m_X1t_countIn (x1 : Int32) (σ : KS) : KR :=
    bnd (m_X2_isFrame x1 σ) (fun r_1 σ_1 => if r_1 = 0 then
    some (0, σ_1)
    else chk x1 128 (bnd (m_J6_bitCount_0f7a4 (rd σ_1 7 x1) σ_1) (fun r_13 σ_13 => some (r_13, σ_13))))
def f_X2_isKernels_2 : Nat → Int32 → Int32 → KS → KR
  | 0, _, _, _ => none
  | n + 1, x1, x2, σ =>
    if 7 < x2 then
    some (0, σ)
    else bnd (m_X2_isFrame ((x1 >>> (x2 &&& 31)) <<< (x2 &&& 31)) σ) (fun r_15 σ_15 => if r_15 = 0 then
    f_X2_isKernels_2 n x1 (x2 + 1) σ_15
    else chk ((x1 >>> (x2 &&& 31)) <<< (x2 &&& 31)) 128 (if (rd σ_15 10 ((x1 >>> (x2 &&& 31)) <<< (x2 &&& 31))) = x2 then
    some (1, σ_15)
    else f_X2_isKernels_2 n x1 (x2 + 1) σ_15))
def m_X2_isKernels (x1 : Int32) (σ : KS) : KR :=
    f_X2_isKernels_2 FU x1 0 σ
def m_X2_isLive (x1 : Int32) (σ : KS) : KR :=
    bnd (m_X2_isNumber x1 σ) (fun r_1 σ_1 => if r_1 = 0 then
    some (0, σ_1)
    else chk x1 16 (if (rd σ_1 11 x1) = 1 then
    some (1, σ_1)
    else some (0, σ_1)))
def m_X2_pageIndex (x1 x2 : Int32) (σ : KS) : KR :=
    bnd (m_X2_tableIndex x1 x2 σ) (fun r_4 σ_4 => bnd (m_X2_wordAt r_4 σ_4) (fun r_7 σ_7 => some (((r_7 * 16) + (x2 - x2 / 16 * 16)), σ_7)))
def m_X2_process (x1 x2 : Int32) (σ : KS) : KR :=
    bnd (m_X2_isNumber x1 σ) (fun r_1 σ_1 => if r_1 = 0 then
    some ((-2), σ_1)
    else if x2 = 0 then
    chk x1 16 (some ((rd σ_1 11 x1), σ_1))
    else if x2 = 1 then
    chk x1 16 (some ((rd σ_1 14 x1), σ_1))
    else if x2 = 2 then
    chk x1 16 (some ((rd σ_1 12 x1), σ_1))
    else if x2 = 3 then
    bnd (m_X2_childrenOf x1 σ_1) (fun r_67 σ_67 => some (r_67, σ_67))
    else if x2 = 4 then
    bnd (m_X2_placeInRow x1 σ_1) (fun r_73 σ_73 => some (r_73, σ_73))
    else some ((-2), σ_1))
def m_X2_tick (σ : KS) : KR :=
    if (gv σ 0) = 0 then
    some ((-1), σ)
    else chk 0 16 (bnd (m_X2_leaveRow (rd σ 16 0) σ) (fun _ σ_18 => bnd (m_X2_joinRow (rd σ 16 0) σ_18) (fun _ σ_23 => chk 0 16 (some ((rd (sv σ_23 3 ((gv σ_23 3) + 1)) 16 0), (sv σ_23 3 ((gv σ_23 3) + 1)))))))
def m_X2_told (x1 : Int32) (σ : KS) : KR :=
    if x1 = 0 then
    bnd (m_X2_countInState 1 σ) (fun r_38 σ_38 => some (r_38, σ_38))
    else if x1 = 1 then
    bnd (m_X2_countInState 2 σ) (fun r_44 σ_44 => some (r_44, σ_44))
    else if x1 = 2 then
    some ((gv σ 1), σ)
    else if x1 = 3 then
    some ((gv σ 2), σ)
    else if x1 = 4 then
    some ((gv σ 3), σ)
    else some ((-2), σ)
def f_X0_giveBlock_5 : Nat → Int32 → Int32 → Int32 → Int32 → KS → KR
  | 0, _, _, _, _, _ => none
  | n + 1, x1, x2, x3, x4, σ =>
    if 7 ≤ x4 then
    bnd (m_X0_putIn x3 x4 σ) (fun _ σ_58 => some (0, σ_58))
    else bnd (m_X0_isFreeBlock (x3 ^^^ ((1 : Int32) <<< (x4 &&& 31))) x4 σ) (fun r_21 σ_21 => if r_21 = 0 then
    bnd (m_X0_putIn x3 x4 σ_21) (fun _ σ_58 => some (0, σ_58))
    else bnd (m_X0_leaveOut (x3 ^^^ ((1 : Int32) <<< (x4 &&& 31))) x4 σ_21) (fun _ σ_36 => f_X0_giveBlock_5 n x1 x2 (x3 &&& (((1 : Int32) <<< (x4 &&& 31)) ^^^ (-1))) (x4 + 1) σ_36))
def m_X0_giveBlock (x1 x2 : Int32) (σ : KS) : KR :=
    f_X0_giveBlock_5 FU x1 x2 x1 x2 σ
def f_X0_takeBlock_30 : Nat → Int32 → Int32 → Int32 → Int32 → KS → KR
  | 0, _, _, _, _, _ => none
  | n + 1, x1, x2, x3, x4, σ =>
    if x4 < x1 then
    some (x3, σ)
    else bnd (m_X0_putIn (x3 + ((1 : Int32) <<< (x4 &&& 31))) x4 σ) (fun _ σ_45 => f_X0_takeBlock_30 n x1 x2 x3 (x4 + (-1)) σ_45)
def f_X0_takeBlock_2 : Nat → Int32 → Int32 → KS → KR
  | 0, _, _, _ => none
  | n + 1, x1, x2, σ =>
    if 7 < x2 then
    some ((-1), σ)
    else bnd (m_X0_leastOf x2 σ) (fun r_10 σ_10 => if r_10 = (-1) then
    f_X0_takeBlock_2 n x1 (x2 + 1) σ_10
    else bnd (m_X0_leaveOut r_10 x2 σ_10) (fun _ σ_22 => f_X0_takeBlock_30 FU x1 x2 r_10 (x2 - 1) σ_22))
def m_X0_takeBlock (x1 : Int32) (σ : KS) : KR :=
    f_X0_takeBlock_2 FU x1 x1 σ
def m_X2_free (x1 x2 : Int32) (σ : KS) : KR :=
    bnd (m_X2_isOrder x1 σ) (fun r_1 σ_1 => if r_1 = 0 then
    some ((-2), σ_1)
    else if x2 = 0 then
    bnd (m_X0_countOf x1 σ_1) (fun r_41 σ_41 => some (r_41, σ_41))
    else if x2 = 1 then
    bnd (m_X0_leastOf x1 σ_1) (fun r_50 σ_50 => some (r_50, σ_50))
    else some ((-2), σ_1))
def f_X2_freeFrames_4 : Nat → Int32 → Int32 → KS → KR
  | 0, _, _, _ => none
  | n + 1, x1, x2, σ =>
    if 7 < x2 then
    some (x1, σ)
    else bnd (m_X0_countOf x2 σ) (fun r_16 σ_16 => f_X2_freeFrames_4 n (x1 + (r_16 <<< (x2 &&& 31))) (x2 + 1) σ_16)
def m_X2_freeFrames (σ : KS) : KR :=
    f_X2_freeFrames_4 FU 0 0 σ
def m_X2_hasPage (x1 x2 : Int32) (σ : KS) : KR :=
    bnd (m_X2_isLive x1 σ) (fun r_2 σ_2 => if r_2 = 0 then
    some (0, σ_2)
    else if x2 < 0 then
    some (0, σ_2)
    else chk x1 16 (if (rd σ_2 14 x1) ≤ x2 then
    some (0, σ_2)
    else some (1, σ_2)))
def m_X2_kindOf (x1 : Int32) (σ : KS) : KR :=
    bnd (m_X1r_countIn x1 σ) (fun r_5 σ_5 => if r_5 ≤ 0 then
    bnd (m_X1t_countIn x1 σ_5) (fun r_18 σ_18 => if r_18 ≤ 0 then
    bnd (m_X2_isFrame x1 σ_18) (fun r_27 σ_27 => if r_27 = 0 then
    bnd (m_X2_isKernels x1 σ_27) (fun r_46 σ_46 => if r_46 = 0 then
    some (0, σ_46)
    else some (4, σ_46))
    else chk x1 128 (if (rd σ_27 9 x1) ≤ 0 then
    bnd (m_X2_isKernels x1 σ_27) (fun r_46 σ_46 => if r_46 = 0 then
    some (0, σ_46)
    else some (4, σ_46))
    else some (3, σ_27)))
    else some (2, σ_18))
    else some (1, σ_5))
def m_X1r_givePlace (x1 : Int32) (σ : KS) : KR :=
    if x1 < 0 then
    some (0, σ)
    else bnd (m_X2_isFrame (x1 / 4) σ) (fun r_9 σ_9 => if r_9 = 0 then
    some (0, σ_9)
    else chk (x1 / 4) 128 (chk (x1 / 4) 128 (chk (x1 / 4) 128 (if (rd (wr σ_9 6 (x1 / 4) ((rd σ_9 6 (x1 / 4)) &&& (((1 : Int32) <<< ((x1 - x1 / 4 * 4) &&& 31)) ^^^ (-1)))) 6 (x1 / 4)) = 0 then
    bnd (m_X0_giveBlock (x1 / 4) 0 (wr σ_9 6 (x1 / 4) ((rd σ_9 6 (x1 / 4)) &&& (((1 : Int32) <<< ((x1 - x1 / 4 * 4) &&& 31)) ^^^ (-1))))) (fun _ σ_47 => some (0, σ_47))
    else some (0, (wr σ_9 6 (x1 / 4) ((rd σ_9 6 (x1 / 4)) &&& (((1 : Int32) <<< ((x1 - x1 / 4 * 4) &&& 31)) ^^^ (-1)))))))))
def f_X1r_takePlace_30 : Nat → Int32 → Int32 → KS → KR
  | 0, _, _, _ => none
  | n + 1, x1, x2, σ =>
    if 4 ≤ x2 then
    some ((-1), σ)
    else chk x1 128 (if ((rd σ 6 x1) &&& ((1 : Int32) <<< (x2 &&& 31))) = 0 then
    chk x1 128 (chk x1 128 (some (((x1 * 4) + x2), (wr σ 6 x1 ((rd σ 6 x1) ||| ((1 : Int32) <<< (x2 &&& 31)))))))
    else f_X1r_takePlace_30 n x1 (x2 + 1) σ)
def m_X1r_takePlace (σ : KS) : KR :=
    bnd (m_X1r_leastWithRoom σ) (fun r_1 σ_1 => if r_1 = (-1) then
    bnd (m_X0_takeBlock 0 σ_1) (fun r_15 σ_15 => bnd (m_X2_isFrame r_15 σ_15) (fun r_20 σ_20 => if r_20 = 0 then
    some ((-1), σ_20)
    else f_X1r_takePlace_30 FU r_15 0 σ_20))
    else bnd (m_X2_isFrame r_1 σ_1) (fun r_20 σ_20 => if r_20 = 0 then
    some ((-1), σ_20)
    else f_X1r_takePlace_30 FU r_1 0 σ_20))
def m_X1t_givePlace (x1 : Int32) (σ : KS) : KR :=
    if x1 < 0 then
    some (0, σ)
    else bnd (m_X2_isFrame (x1 / 4) σ) (fun r_9 σ_9 => if r_9 = 0 then
    some (0, σ_9)
    else chk (x1 / 4) 128 (chk (x1 / 4) 128 (chk (x1 / 4) 128 (if (rd (wr σ_9 7 (x1 / 4) ((rd σ_9 7 (x1 / 4)) &&& (((1 : Int32) <<< ((x1 - x1 / 4 * 4) &&& 31)) ^^^ (-1)))) 7 (x1 / 4)) = 0 then
    bnd (m_X0_giveBlock (x1 / 4) 0 (wr σ_9 7 (x1 / 4) ((rd σ_9 7 (x1 / 4)) &&& (((1 : Int32) <<< ((x1 - x1 / 4 * 4) &&& 31)) ^^^ (-1))))) (fun _ σ_47 => some (0, σ_47))
    else some (0, (wr σ_9 7 (x1 / 4) ((rd σ_9 7 (x1 / 4)) &&& (((1 : Int32) <<< ((x1 - x1 / 4 * 4) &&& 31)) ^^^ (-1)))))))))
def f_X1t_takePlace_30 : Nat → Int32 → Int32 → KS → KR
  | 0, _, _, _ => none
  | n + 1, x1, x2, σ =>
    if 4 ≤ x2 then
    some ((-1), σ)
    else chk x1 128 (if ((rd σ 7 x1) &&& ((1 : Int32) <<< (x2 &&& 31))) = 0 then
    chk x1 128 (chk x1 128 (some (((x1 * 4) + x2), (wr σ 7 x1 ((rd σ 7 x1) ||| ((1 : Int32) <<< (x2 &&& 31)))))))
    else f_X1t_takePlace_30 n x1 (x2 + 1) σ)
def m_X1t_takePlace (σ : KS) : KR :=
    bnd (m_X1t_leastWithRoom σ) (fun r_1 σ_1 => if r_1 = (-1) then
    bnd (m_X0_takeBlock 0 σ_1) (fun r_15 σ_15 => bnd (m_X2_isFrame r_15 σ_15) (fun r_20 σ_20 => if r_20 = 0 then
    some ((-1), σ_20)
    else f_X1t_takePlace_30 FU r_15 0 σ_20))
    else bnd (m_X2_isFrame r_1 σ_1) (fun r_20 σ_20 => if r_20 = 0 then
    some ((-1), σ_20)
    else f_X1t_takePlace_30 FU r_1 0 σ_20))
def m_X2_about (x1 x2 : Int32) (σ : KS) : KR :=
    bnd (m_X2_isFrame x1 σ) (fun r_1 σ_1 => if r_1 = 0 then
    some ((-2), σ_1)
    else if x2 = 0 then
    bnd (m_X2_kindOf x1 σ_1) (fun r_38 σ_38 => some (r_38, σ_38))
    else if x2 = 1 then
    bnd (m_X1r_countIn x1 σ_1) (fun r_47 σ_47 => bnd (m_X1t_countIn x1 σ_47) (fun r_55 σ_55 => chk x1 128 (some (((r_47 + r_55) + (rd σ_55 9 x1)), σ_55))))
    else some ((-2), σ_1))
def m_X2_block (x1 : Int32) (σ : KS) : KR :=
    bnd (m_X2_isOrder x1 σ) (fun r_1 σ_1 => if r_1 = 0 then
    some ((-2), σ_1)
    else bnd (m_X0_takeBlock x1 σ_1) (fun r_15 σ_15 => bnd (m_X2_isFrame r_15 σ_15) (fun r_20 σ_20 => if r_20 = 0 then
    bnd (m_X2_refuse σ_20) (fun r_27 σ_27 => some (r_27, σ_27))
    else chk r_15 128 (some (r_15, (wr σ_20 10 r_15 x1))))))
def m_X2_dropPageFrame (x1 : Int32) (σ : KS) : KR :=
    bnd (m_X2_isFrame x1 σ) (fun r_1 σ_1 => if r_1 = 0 then
    some (0, σ_1)
    else chk x1 128 (chk x1 128 (chk x1 128 (if (rd (wr σ_1 9 x1 ((rd σ_1 9 x1) - 1)) 9 x1) = 0 then
    bnd (m_X0_giveBlock x1 0 (wr σ_1 9 x1 ((rd σ_1 9 x1) - 1))) (fun _ σ_33 => some (0, σ_33))
    else some (0, (wr σ_1 9 x1 ((rd σ_1 9 x1) - 1)))))))
def m_X2_frameOfPage (x1 x2 : Int32) (σ : KS) : KR :=
    bnd (m_X2_hasPage x1 x2 σ) (fun r_3 σ_3 => if r_3 = 0 then
    some ((-1), σ_3)
    else bnd (m_X2_pageIndex x1 x2 σ_3) (fun r_13 σ_13 => bnd (m_X2_wordAt r_13 σ_13) (fun r_16 σ_16 => some (r_16, σ_16))))
def m_X2_has (x1 x2 : Int32) (σ : KS) : KR :=
    bnd (m_X2_pageOf x2 σ) (fun r_3 σ_3 => bnd (m_X2_hasPage x1 r_3 σ_3) (fun r_6 σ_6 => zchk r_6 (some (r_6, σ_6))))
def m_X2_takePageFrame (σ : KS) : KR :=
    bnd (m_X0_takeBlock 0 σ) (fun r_5 σ_5 => bnd (m_X2_isFrame r_5 σ_5) (fun r_10 σ_10 => if r_10 = 0 then
    some ((-1), σ_10)
    else chk r_5 128 (some (r_5, (wr σ_10 9 r_5 1)))))
def m_X2_unblock (x1 : Int32) (σ : KS) : KR :=
    bnd (m_X2_isFrame x1 σ) (fun r_1 σ_1 => if r_1 = 0 then
    some ((-2), σ_1)
    else chk x1 128 (if (rd σ_1 10 x1) = (-1) then
    some ((-2), σ_1)
    else chk x1 128 (chk x1 128 (bnd (m_X0_giveBlock x1 (rd σ_1 10 x1) (wr σ_1 10 x1 (-1))) (fun _ σ_40 => some ((rd σ_1 10 x1), σ_40))))))
def m_X2_addTable (x1 x2 : Int32) (σ : KS) : KR :=
    bnd (m_X1t_takePlace σ) (fun r_4 σ_4 => if r_4 = (-1) then
    some (0, σ_4)
    else bnd (m_X2_tableIndex x1 x2 σ_4) (fun r_19 σ_19 => bnd (m_X2_setWord r_19 r_4 σ_19) (fun _ σ_23 => some (1, σ_23))))
def m_X2_dropTable (x1 x2 : Int32) (σ : KS) : KR :=
    bnd (m_X2_tableIndex x1 x2 σ) (fun r_8 σ_8 => bnd (m_X2_wordAt r_8 σ_8) (fun r_11 σ_11 => bnd (m_X1t_givePlace r_11 σ_11) (fun _ σ_14 => some (0, σ_14))))
def m_X2_frame (x1 x2 : Int32) (σ : KS) : KR :=
    bnd (m_X2_frameOfPage x1 x2 σ) (fun r_3 σ_3 => some (r_3, σ_3))
def f_X2_ownPage_43 : Nat → Int32 → Int32 → Int32 → Int32 → Int32 → KS → KR
  | 0, _, _, _, _, _, _ => none
  | n + 1, x1, x2, x3, x4, x5, σ =>
    if 64 ≤ x5 then
    bnd (m_X2_dropPageFrame x3 σ) (fun _ σ_81 => bnd (m_X2_pageIndex x1 x2 σ_81) (fun r_88 σ_88 => bnd (m_X2_setWord r_88 x4 σ_88) (fun _ σ_93 => some (1, (sv σ_93 1 ((gv σ_93 1) + 1))))))
    else bnd (m_X2_wordAt ((x3 * 64) + x5) σ) (fun r_67 σ_67 => bnd (m_X2_setWord ((x4 * 64) + x5) r_67 σ_67) (fun _ σ_70 => f_X2_ownPage_43 n x1 x2 x3 x4 (x5 + 1) σ_70))
def m_X2_ownPage (x1 x2 : Int32) (σ : KS) : KR :=
    bnd (m_X2_frameOfPage x1 x2 σ) (fun r_3 σ_3 => bnd (m_X2_isFrame r_3 σ_3) (fun r_8 σ_8 => if r_8 = 0 then
    some (1, σ_8)
    else chk r_3 128 (if 2 ≤ (rd σ_8 9 r_3) then
    bnd (m_X2_takePageFrame σ_8) (fun r_27 σ_27 => if r_27 = (-1) then
    some (0, σ_27)
    else f_X2_ownPage_43 FU x1 x2 r_3 r_27 0 σ_27)
    else some (1, σ_8))))
def m_X2_removeProcess (x1 : Int32) (σ : KS) : KR :=
    chk x1 16 (bnd (m_X1r_givePlace (rd σ 15 x1) σ) (fun _ σ_10 => chk x1 16 (chk x1 16 (some (0, (wr (wr σ_10 11 x1 0) 12 x1 (-1)))))))
def f_X2_sharePages_10 : Nat → Int32 → Int32 → Int32 → Int32 → KS → KR
  | 0, _, _, _, _, _ => none
  | n + 1, x1, x2, x3, x4, σ =>
    if x3 ≤ x4 then
    chk x2 16 (some (0, (wr σ 14 x2 x3)))
    else bnd (m_X2_frameOfPage x1 x4 σ) (fun r_20 σ_20 => bnd (m_X2_isFrame r_20 σ_20) (fun r_27 σ_27 => if r_27 = 0 then
    bnd (m_X2_pageIndex x2 x4 σ_27) (fun r_49 σ_49 => bnd (m_X2_setWord r_49 r_20 σ_49) (fun _ σ_54 => f_X2_sharePages_10 n x1 x2 x3 (x4 + 1) σ_54))
    else chk r_20 128 (chk r_20 128 (bnd (m_X2_pageIndex x2 x4 (wr σ_27 9 r_20 ((rd σ_27 9 r_20) + 1))) (fun r_49 σ_49 => bnd (m_X2_setWord r_49 r_20 σ_49) (fun _ σ_54 => f_X2_sharePages_10 n x1 x2 x3 (x4 + 1) σ_54))))))
def m_X2_sharePages (x1 x2 : Int32) (σ : KS) : KR :=
    chk x1 16 (f_X2_sharePages_10 FU x1 x2 (rd σ 14 x1) 0 σ)
def m_X2_wordIndex (x1 x2 : Int32) (σ : KS) : KR :=
    bnd (m_X2_pageOf x2 σ) (fun r_3 σ_3 => bnd (m_X2_frameOfPage x1 r_3 σ_3) (fun r_6 σ_6 => some (((r_6 * 64) + (x2 &&& 63)), σ_6)))
def f_X2_addPage_55 : Nat → Int32 → Int32 → Int32 → Int32 → Int32 → KS → KR
  | 0, _, _, _, _, _, _ => none
  | n + 1, x1, x2, x3, x4, x5, σ =>
    if 64 ≤ x5 then
    bnd (m_X2_pageIndex x1 x2 σ) (fun r_85 σ_85 => bnd (m_X2_setWord r_85 x4 σ_85) (fun _ σ_90 => chk x1 16 (some (1, (wr σ_90 14 x1 (x2 + 1))))))
    else bnd (m_X2_setWord ((x4 * 64) + x5) 0 σ) (fun _ σ_72 => f_X2_addPage_55 n x1 x2 x3 x4 (x5 + 1) σ_72)
def m_X2_addPage (x1 x2 : Int32) (σ : KS) : KR :=
    if (x2 - x2 / 16 * 16) = 0 then
    bnd (m_X2_addTable x1 x2 σ) (fun r_20 σ_20 => if r_20 = 0 then
    some (0, σ_20)
    else bnd (m_X2_takePageFrame σ_20) (fun r_29 σ_29 => if r_29 = (-1) then
    bnd (m_X2_dropTable x1 x2 σ_29) (fun _ σ_47 => some (0, σ_47))
    else f_X2_addPage_55 FU x1 x2 1 r_29 0 σ_29))
    else bnd (m_X2_takePageFrame σ) (fun r_29 σ_29 => if r_29 = (-1) then
    some (0, σ_29)
    else f_X2_addPage_55 FU x1 x2 0 r_29 0 σ_29)
def f_X2_leaveChildren_2 : Nat → Int32 → Int32 → KS → KR
  | 0, _, _, _ => none
  | n + 1, x1, x2, σ =>
    if 16 ≤ x2 then
    some (0, σ)
    else chk x2 16 (if (rd σ 12 x2) = x1 then
    chk x2 16 (if (rd σ 11 x2) = 2 then
    bnd (m_X2_removeProcess x2 σ) (fun _ σ_30 => f_X2_leaveChildren_2 n x1 (x2 + 1) σ_30)
    else chk x2 16 (f_X2_leaveChildren_2 n x1 (x2 + 1) (wr σ 12 x2 (-1))))
    else f_X2_leaveChildren_2 n x1 (x2 + 1) σ)
def m_X2_leaveChildren (x1 : Int32) (σ : KS) : KR :=
    f_X2_leaveChildren_2 FU x1 0 σ
def m_X2_load (x1 x2 : Int32) (σ : KS) : KR :=
    bnd (m_X2_pageOf x2 σ) (fun r_3 σ_3 => bnd (m_X2_hasPage x1 r_3 σ_3) (fun r_6 σ_6 => if r_6 = 0 then
    some (0, σ_6)
    else bnd (m_X2_wordIndex x1 x2 σ_6) (fun r_18 σ_18 => bnd (m_X2_wordAt r_18 σ_18) (fun r_21 σ_21 => some (r_21, σ_21)))))
def f_X2_reap_24 : Nat → Int32 → Int32 → KS → KR
  | 0, _, _, _ => none
  | n + 1, x1, x2, σ =>
    if 16 ≤ x2 then
    some ((-7), σ)
    else chk x2 16 (if (rd σ 12 x2) = x1 then
    chk x2 16 (if (rd σ 11 x2) = 2 then
    bnd (m_X2_removeProcess x2 σ) (fun _ σ_52 => chk x2 16 (some (((256 * x2) + ((rd σ_52 13 x2) &&& 255)), σ_52)))
    else f_X2_reap_24 n x1 (x2 + 1) σ)
    else f_X2_reap_24 n x1 (x2 + 1) σ)
def m_X2_reap (x1 : Int32) (σ : KS) : KR :=
    bnd (m_X2_isLive x1 σ) (fun r_2 σ_2 => if r_2 = 0 then
    some ((-2), σ_2)
    else bnd (m_X2_childrenOf x1 σ_2) (fun r_13 σ_13 => if r_13 = 0 then
    some ((-6), σ_13)
    else f_X2_reap_24 FU x1 0 σ_13))
def f_X2_shrinkTo_9 : Nat → Int32 → Int32 → Int32 → KS → KR
  | 0, _, _, _, _ => none
  | n + 1, x1, x2, x3, σ =>
    if x3 < x2 then
    some (0, σ)
    else bnd (m_X2_frameOfPage x1 x3 σ) (fun r_18 σ_18 => bnd (m_X2_dropPageFrame r_18 σ_18) (fun _ σ_21 => if (x3 - x3 / 16 * 16) = 0 then
    bnd (m_X2_dropTable x1 x3 σ_21) (fun _ σ_34 => chk x1 16 (f_X2_shrinkTo_9 n x1 x2 (x3 + (-1)) (wr σ_34 14 x1 x3)))
    else chk x1 16 (f_X2_shrinkTo_9 n x1 x2 (x3 + (-1)) (wr σ_21 14 x1 x3))))
def m_X2_shrinkTo (x1 x2 : Int32) (σ : KS) : KR :=
    chk x1 16 (f_X2_shrinkTo_9 FU x1 x2 ((rd σ 14 x1) - 1) σ)
def m_X2_store (x1 x2 x3 : Int32) (σ : KS) : KR :=
    bnd (m_X2_isLive x1 σ) (fun r_2 σ_2 => if r_2 = 0 then
    some ((-2), σ_2)
    else bnd (m_X2_pageOf x2 σ_2) (fun r_14 σ_14 => bnd (m_X2_hasPage x1 r_14 σ_14) (fun r_17 σ_17 => if r_17 = 0 then
    some ((-5), σ_17)
    else bnd (m_X2_pageOf x2 σ_17) (fun r_29 σ_29 => bnd (m_X2_ownPage x1 r_29 σ_29) (fun r_32 σ_32 => if r_32 = 0 then
    bnd (m_X2_refuse σ_32) (fun r_39 σ_39 => some (r_39, σ_39))
    else bnd (m_X2_wordIndex x1 x2 σ_32) (fun r_47 σ_47 => bnd (m_X2_setWord r_47 x3 σ_47) (fun _ σ_51 => some (0, σ_51))))))))
def f_X2_takeTables_22 : Nat → Int32 → Int32 → Int32 → Int32 → KS → KR
  | 0, _, _, _, _, _ => none
  | n + 1, x1, x2, x3, x4, σ =>
    if x4 < 0 then
    some (0, σ)
    else bnd (m_X2_dropTable x1 x4 σ) (fun _ σ_31 => f_X2_takeTables_22 n x1 x2 x3 (x4 + (-16)) σ_31)
def f_X2_takeTables_2 : Nat → Int32 → Int32 → Int32 → KS → KR
  | 0, _, _, _, _ => none
  | n + 1, x1, x2, x3, σ =>
    if x2 ≤ x3 then
    some (1, σ)
    else bnd (m_X2_addTable x1 x3 σ) (fun r_10 σ_10 => if r_10 = 0 then
    f_X2_takeTables_22 FU x1 x2 x3 (x3 - 16) σ_10
    else f_X2_takeTables_2 n x1 x2 (x3 + 16) σ_10)
def m_X2_takeTables (x1 x2 : Int32) (σ : KS) : KR :=
    f_X2_takeTables_2 FU x1 x2 0 σ
def m_X2_exit (x1 x2 : Int32) (σ : KS) : KR :=
    bnd (m_X2_isLive x1 σ) (fun r_2 σ_2 => if r_2 = 0 then
    some ((-2), σ_2)
    else bnd (m_X2_leaveRow x1 σ_2) (fun _ σ_13 => bnd (m_X2_shrinkTo x1 0 σ_13) (fun _ σ_19 => bnd (m_X2_leaveChildren x1 σ_19) (fun _ σ_24 => chk x1 16 (if (rd σ_24 12 x1) = (-1) then
    bnd (m_X2_removeProcess x1 σ_24) (fun _ σ_39 => some (0, σ_39))
    else chk x1 16 (chk x1 16 (some (0, (wr (wr σ_24 11 x1 2) 13 x1 x2)))))))))
def f_X2_grow_44 : Nat → Int32 → Int32 → Int32 → Int32 → Int32 → KS → KR
  | 0, _, _, _, _, _, _ => none
  | n + 1, x1, x2, x3, x4, x5, σ =>
    if x4 ≤ x5 then
    bnd (m_X2_shrinkTo x1 x4 σ) (fun _ σ_82 => some (x3, σ_82))
    else bnd (m_X2_addPage x1 x5 σ) (fun r_55 σ_55 => if r_55 = 0 then
    bnd (m_X2_shrinkTo x1 x3 σ_55) (fun _ σ_64 => bnd (m_X2_refuse σ_64) (fun r_68 σ_68 => some (r_68, σ_68)))
    else f_X2_grow_44 n x1 x2 x3 x4 (x5 + 1) σ_55)
def m_X2_grow (x1 x2 : Int32) (σ : KS) : KR :=
    bnd (m_X2_isLive x1 σ) (fun r_2 σ_2 => if r_2 = 0 then
    some ((-2), σ_2)
    else chk x1 16 (if x2 < (-(rd σ_2 14 x1)) then
    some ((-2), σ_2)
    else if x2 ≤ (256 - (rd σ_2 14 x1)) then
    f_X2_grow_44 FU x1 x2 (rd σ_2 14 x1) ((rd σ_2 14 x1) + x2) (rd σ_2 14 x1) σ_2
    else some ((-2), σ_2)))
def m_X2_makeProcess (x1 : Int32) (σ : KS) : KR :=
    bnd (m_X2_leastUnused σ) (fun r_1 σ_1 => bnd (m_X2_isNumber r_1 σ_1) (fun r_6 σ_6 => if r_6 = 0 then
    some ((-4), σ_6)
    else bnd (m_X1r_takePlace σ_6) (fun r_19 σ_19 => if r_19 = (-1) then
    bnd (m_X2_refuse σ_19) (fun r_29 σ_29 => some (r_29, σ_29))
    else chk r_1 16 (bnd (m_X2_isLive x1 (wr σ_19 15 r_1 r_19)) (fun r_42 σ_42 => if r_42 = 0 then
    chk r_1 16 (chk r_1 16 (bnd (m_X2_joinRow r_1 (wr (wr σ_42 11 r_1 1) 12 r_1 x1)) (fun _ σ_97 => some (r_1, σ_97))))
    else chk x1 16 (bnd (m_X2_takeTables r_1 (rd σ_42 14 x1) σ_42) (fun r_56 σ_56 => if r_56 = 0 then
    bnd (m_X1r_givePlace r_19 σ_56) (fun _ σ_67 => bnd (m_X2_refuse σ_67) (fun r_71 σ_71 => some (r_71, σ_71)))
    else bnd (m_X2_sharePages x1 r_1 σ_56) (fun _ σ_78 => chk r_1 16 (chk r_1 16 (bnd (m_X2_joinRow r_1 (wr (wr σ_78 11 r_1 1) 12 r_1 x1)) (fun _ σ_97 => some (r_1, σ_97))))))))))))
def m_X2_fork (x1 : Int32) (σ : KS) : KR :=
    bnd (m_X2_isLive x1 σ) (fun r_2 σ_2 => if r_2 = 0 then
    some ((-2), σ_2)
    else bnd (m_X2_makeProcess x1 σ_2) (fun r_10 σ_10 => some (r_10, σ_10)))
def m_X2_spawn (σ : KS) : KR :=
    bnd (m_X2_makeProcess (-1) σ) (fun r_2 σ_2 => some (r_2, σ_2))
def m_X3_begin (x1 x2 x3 : Int32) (σ : KS) : KR :=
    chk x1 16 (chk x1 16 (chk x1 16 (chk x1 16 (chk (gv (wr (wr (wr (wr σ 6 x1 1) 10 x1 x2) 8 x1 x3) 7 x1 0) 0) 16 (some (0, (sv (wr (wr (wr (wr (wr σ 6 x1 1) 10 x1 x2) 8 x1 x3) 7 x1 0) 13 (gv (wr (wr (wr (wr σ 6 x1 1) 10 x1 x2) 8 x1 x3) 7 x1 0) 0) x1) 0 ((gv (wr (wr (wr (wr (wr σ 6 x1 1) 10 x1 x2) 8 x1 x3) 7 x1 0) 13 (gv (wr (wr (wr (wr σ 6 x1 1) 10 x1 x2) 8 x1 x3) 7 x1 0) 0) x1) 0) + 1))))))))
def m_X3_current (σ : KS) : KR :=
    if (gv σ 0) = 0 then
    some ((-1), σ)
    else chk 0 16 (some ((rd σ 13 0), σ))
def f_X3_fail_56 : Nat → Int32 → KS → KR
  | 0, _, _ => none
  | n + 1, x1, σ =>
    if 512 ≤ x1 then
    some ((-3), (sv σ 2 ((gv σ 2) + 1)))
    else chk x1 512 (chk x1 512 (zchk (rd σ 16 x1) (f_X3_fail_56 n (x1 + 1) (wr σ 3 x1 (rd σ 16 x1)))))
def f_X3_fail_29 : Nat → Int32 → KS → KR
  | 0, _, _ => none
  | n + 1, x1, σ =>
    if 128 ≤ x1 then
    f_X3_fail_56 FU 0 σ
    else chk x1 128 (chk x1 128 (f_X3_fail_29 n (x1 + 1) (wr σ 2 x1 (rd σ 15 x1))))
def f_X3_fail_2 : Nat → Int32 → KS → KR
  | 0, _, _ => none
  | n + 1, x1, σ =>
    if 1024 ≤ x1 then
    f_X3_fail_29 FU 0 σ
    else chk x1 1024 (chk x1 1024 (zchk (rd σ 14 x1) (f_X3_fail_2 n (x1 + 1) (wr σ 1 x1 (rd σ 14 x1)))))
def m_X3_fail (σ : KS) : KR :=
    f_X3_fail_2 FU 0 σ
def f_X3_free_30 : Nat → Int32 → Int32 → Int32 → Int32 → Int32 → KS → KR
  | 0, _, _, _, _, _, _ => none
  | n + 1, x1, x2, x3, x4, x5, σ =>
    if 128 ≤ x5 then
    if x2 = 0 then
    some (x3, σ)
    else some (x4, σ)
    else chk ((128 * x1) + x5) 1024 (if (rd σ 1 ((128 * x1) + x5)) = 0 then
    f_X3_free_30 n x1 x2 x3 x4 (x5 + 1) σ
    else if 0 ≤ x4 then
    f_X3_free_30 n x1 x2 (x3 + 1) x4 (x5 + 1) σ
    else f_X3_free_30 n x1 x2 (x3 + 1) x5 (x5 + 1) σ)
def m_X3_free (x1 x2 : Int32) (σ : KS) : KR :=
    if x1 < 0 then
    some ((-2), σ)
    else if 8 ≤ x1 then
    some ((-2), σ)
    else if x2 < 0 then
    some ((-2), σ)
    else if x2 ≤ 1 then
    f_X3_free_30 FU x1 x2 0 (-1) 0 σ
    else some ((-2), σ)
def f_X3_freeFrames_4 : Nat → Int32 → Int32 → KS → KR
  | 0, _, _, _ => none
  | n + 1, x1, x2, σ =>
    if 128 ≤ x2 then
    some (x1, σ)
    else chk x2 128 (if (rd σ 2 x2) = 0 then
    f_X3_freeFrames_4 n (x1 + 1) (x2 + 1) σ
    else f_X3_freeFrames_4 n (x1 + 0) (x2 + 1) σ)
def m_X3_freeFrames (σ : KS) : KR :=
    f_X3_freeFrames_4 FU 0 0 σ
def f_X3_freePlace_4 : Nat → Int32 → Int32 → KS → KR
  | 0, _, _, _ => none
  | n + 1, x1, x2, σ =>
    if ((4 * x1) + 4) ≤ x2 then
    some ((-1), σ)
    else chk x2 512 (if (rd σ 3 x2) = 0 then
    some (x2, σ)
    else f_X3_freePlace_4 n x1 (x2 + 1) σ)
def m_X3_freePlace (x1 : Int32) (σ : KS) : KR :=
    f_X3_freePlace_4 FU x1 (4 * x1) σ
def f_X3_giveBlock_32 : Nat → Int32 → Int32 → Int32 → Int32 → Int32 → KS → KR
  | 0, _, _, _, _, _, _ => none
  | n + 1, x1, x2, x3, x4, x5, σ =>
    if 7 ≤ x4 then
    chk ((128 * x4) + x3) 1024 (zchk 1 (some (0, (wr σ 1 ((128 * x4) + x3) 1))))
    else chk ((128 * x4) + (x3 ^^^ ((1 : Int32) <<< (x4 &&& 31)))) 1024 (if (rd σ 1 ((128 * x4) + (x3 ^^^ ((1 : Int32) <<< (x4 &&& 31))))) = 0 then
    chk ((128 * x4) + x3) 1024 (zchk 1 (some (0, (wr σ 1 ((128 * x4) + x3) 1))))
    else chk ((128 * x4) + (x3 ^^^ ((1 : Int32) <<< (x4 &&& 31)))) 1024 (zchk 0 (f_X3_giveBlock_32 n x1 x2 (x3 &&& (((1 : Int32) <<< (x4 &&& 31)) ^^^ (-1))) (x4 + 1) x5 (wr σ 1 ((128 * x4) + (x3 ^^^ ((1 : Int32) <<< (x4 &&& 31)))) 0))))
def f_X3_giveBlock_8 : Nat → Int32 → Int32 → Int32 → Int32 → Int32 → KS → KR
  | 0, _, _, _, _, _, _ => none
  | n + 1, x1, x2, x3, x4, x5, σ =>
    if (x1 + ((1 : Int32) <<< (x2 &&& 31))) ≤ x5 then
    f_X3_giveBlock_32 FU x1 x2 x3 x4 x5 σ
    else chk x5 128 (f_X3_giveBlock_8 n x1 x2 x3 x4 (x5 + 1) (wr σ 2 x5 0))
def m_X3_giveBlock (x1 x2 : Int32) (σ : KS) : KR :=
    f_X3_giveBlock_8 FU x1 x2 x1 x2 x1 σ
def m_X3_isLive (x1 : Int32) (σ : KS) : KR :=
    if x1 < 0 then
    some (0, σ)
    else if 16 ≤ x1 then
    some (0, σ)
    else chk x1 16 (if (rd σ 6 x1) = 1 then
    some (1, σ)
    else some (0, σ))
def f_X3_layAside_56 : Nat → Int32 → KS → KR
  | 0, _, _ => none
  | n + 1, x1, σ =>
    if 512 ≤ x1 then
    some (0, σ)
    else chk x1 512 (chk x1 512 (zchk (rd σ 3 x1) (f_X3_layAside_56 n (x1 + 1) (wr σ 16 x1 (rd σ 3 x1)))))
def f_X3_layAside_29 : Nat → Int32 → KS → KR
  | 0, _, _ => none
  | n + 1, x1, σ =>
    if 128 ≤ x1 then
    f_X3_layAside_56 FU 0 σ
    else chk x1 128 (chk x1 128 (f_X3_layAside_29 n (x1 + 1) (wr σ 15 x1 (rd σ 2 x1))))
def f_X3_layAside_2 : Nat → Int32 → KS → KR
  | 0, _, _ => none
  | n + 1, x1, σ =>
    if 1024 ≤ x1 then
    f_X3_layAside_29 FU 0 σ
    else chk x1 1024 (chk x1 1024 (zchk (rd σ 1 x1) (f_X3_layAside_2 n (x1 + 1) (wr σ 14 x1 (rd σ 1 x1)))))
def m_X3_layAside (σ : KS) : KR :=
    f_X3_layAside_2 FU 0 σ
def f_X3_placeInRow_2 : Nat → Int32 → Int32 → KS → KR
  | 0, _, _, _ => none
  | n + 1, x1, x2, σ =>
    if (gv σ 0) ≤ x2 then
    some ((-1), σ)
    else chk x2 16 (if (rd σ 13 x2) = x1 then
    some (x2, σ)
    else f_X3_placeInRow_2 n x1 (x2 + 1) σ)
def m_X3_placeInRow (x1 : Int32) (σ : KS) : KR :=
    f_X3_placeInRow_2 FU x1 0 σ
def f_X3_smallIn_6 : Nat → Int32 → Int32 → Int32 → KS → KR
  | 0, _, _, _, _ => none
  | n + 1, x1, x2, x3, σ =>
    if ((4 * x1) + 4) ≤ x3 then
    some (x2, σ)
    else chk x3 512 (if (rd σ 3 x3) = 0 then
    f_X3_smallIn_6 n x1 (x2 + 0) (x3 + 1) σ
    else f_X3_smallIn_6 n x1 (x2 + 1) (x3 + 1) σ)
def m_X3_smallIn (x1 : Int32) (σ : KS) : KR :=
    f_X3_smallIn_6 FU x1 0 (4 * x1) σ
def f_X3_takeBlock_50 : Nat → Int32 → Int32 → Int32 → Int32 → KS → KR
  | 0, _, _, _, _, _ => none
  | n + 1, x1, x2, x3, x4, σ =>
    if x4 < x1 then
    some (x3, σ)
    else chk (((128 * x4) + x3) + ((1 : Int32) <<< (x4 &&& 31))) 1024 (zchk 1 (f_X3_takeBlock_50 n x1 x2 x3 (x4 + (-1)) (wr σ 1 (((128 * x4) + x3) + ((1 : Int32) <<< (x4 &&& 31))) 1)))
def f_X3_takeBlock_10 (kk : Int32 → Int32 → KS → KR) : Nat → Int32 → Int32 → Int32 → KS → KR
  | 0, _, _, _, _ => none
  | n + 1, x1, x2, x3, σ =>
    if 128 ≤ x3 then
    kk x1 (x2 + 1) σ
    else chk ((128 * x2) + x3) 1024 (if (rd σ 1 ((128 * x2) + x3)) = 0 then
    f_X3_takeBlock_10 kk n x1 x2 (x3 + 1) σ
    else chk ((128 * x2) + x3) 1024 (zchk 0 (f_X3_takeBlock_50 FU x1 x2 x3 (x2 - 1) (wr σ 1 ((128 * x2) + x3) 0))))
def f_X3_takeBlock_2 : Nat → Int32 → Int32 → KS → KR
  | 0, _, _, _ => none
  | n + 1, x1, x2, σ =>
    if 8 ≤ x2 then
    some ((-1), σ)
    else f_X3_takeBlock_10 (fun y1 y2 σ => f_X3_takeBlock_2 n y1 y2 σ) FU x1 x2 0 σ
def m_X3_takeBlock (x1 : Int32) (σ : KS) : KR :=
    f_X3_takeBlock_2 FU x1 x1 σ
def f_X3_tick_28 : Nat → Int32 → Int32 → KS → KR
  | 0, _, _, _ => none
  | n + 1, x1, x2, σ =>
    if (gv σ 0) ≤ (x2 + 1) then
    chk ((gv σ 0) - 1) 16 (chk 0 16 (some ((rd (wr σ 13 ((gv σ 0) - 1) x1) 13 0), (wr σ 13 ((gv σ 0) - 1) x1))))
    else chk (x2 + 1) 16 (chk x2 16 (f_X3_tick_28 n x1 (x2 + 1) (wr σ 13 x2 (rd σ 13 (x2 + 1)))))
def m_X3_tick (σ : KS) : KR :=
    if (gv σ 0) = 0 then
    some ((-1), σ)
    else chk 0 16 (f_X3_tick_28 FU (rd (sv σ 3 ((gv σ 3) + 1)) 13 0) 0 (sv σ 3 ((gv σ 3) + 1)))
def f_X3_told_19 : Nat → Int32 → Int32 → Int32 → Int32 → KS → KR
  | 0, _, _, _, _, _ => none
  | n + 1, x1, x2, x3, x4, σ =>
    if 16 ≤ x4 then
    if x1 = 0 then
    some (x2, σ)
    else if x1 = 1 then
    some (x3, σ)
    else if x1 = 2 then
    some ((gv σ 1), σ)
    else if x1 = 3 then
    some ((gv σ 2), σ)
    else some ((gv σ 3), σ)
    else chk x4 16 (if (rd σ 6 x4) = 1 then
    chk x4 16 (if (rd σ 6 x4) = 2 then
    f_X3_told_19 n x1 (x2 + 1) (x3 + 1) (x4 + 1) σ
    else f_X3_told_19 n x1 (x2 + 1) (x3 + 0) (x4 + 1) σ)
    else chk x4 16 (if (rd σ 6 x4) = 2 then
    f_X3_told_19 n x1 (x2 + 0) (x3 + 1) (x4 + 1) σ
    else f_X3_told_19 n x1 (x2 + 0) (x3 + 0) (x4 + 1) σ))
def m_X3_told (x1 : Int32) (σ : KS) : KR :=
    if x1 < 0 then
    some ((-2), σ)
    else if x1 ≤ 4 then
    f_X3_told_19 FU x1 0 0 0 σ
    else some ((-2), σ)
def f_X3_unusedNumber_2 : Nat → Int32 → KS → KR
  | 0, _, _ => none
  | n + 1, x1, σ =>
    if 16 ≤ x1 then
    some ((-1), σ)
    else chk x1 16 (if (rd σ 6 x1) = 0 then
    some (x1, σ)
    else f_X3_unusedNumber_2 n (x1 + 1) σ)
def m_X3_unusedNumber (σ : KS) : KR :=
    f_X3_unusedNumber_2 FU 0 σ
def f_X3_users_13 (kk : Int32 → Int32 → Int32 → KS → KR) : Nat → Int32 → Int32 → Int32 → Int32 → KS → KR
  | 0, _, _, _, _, _ => none
  | n + 1, x1, x2, x3, x4, σ =>
    chk x3 16 (if (rd σ 7 x3) ≤ x4 then
    kk x1 x2 (x3 + 1) σ
    else chk x3 16 (if (rd σ 6 x3) = 1 then
    chk ((256 * x3) + x4) 4096 (if (rd σ 11 ((256 * x3) + x4)) = x1 then
    f_X3_users_13 kk n x1 (x2 + 1) x3 (x4 + 1) σ
    else f_X3_users_13 kk n x1 (x2 + 0) x3 (x4 + 1) σ)
    else kk x1 x2 (x3 + 1) σ))
def f_X3_users_4 : Nat → Int32 → Int32 → Int32 → KS → KR
  | 0, _, _, _, _ => none
  | n + 1, x1, x2, x3, σ =>
    if 16 ≤ x3 then
    some (x2, σ)
    else f_X3_users_13 (fun y1 y2 y3 σ => f_X3_users_4 n y1 y2 y3 σ) FU x1 x2 x3 0 σ
def m_X3_users (x1 : Int32) (σ : KS) : KR :=
    f_X3_users_4 FU x1 0 0 σ
def m_X3_about (x1 x2 : Int32) (σ : KS) : KR :=
    if x1 < 0 then
    some ((-2), σ)
    else if 128 ≤ x1 then
    some ((-2), σ)
    else if x2 < 0 then
    some ((-2), σ)
    else if x2 ≤ 1 then
    if x2 = 0 then
    chk x1 128 (some ((rd σ 2 x1), σ))
    else chk x1 128 (if (rd σ 2 x1) = 1 then
    bnd (m_X3_smallIn x1 σ) (fun r_56 σ_56 => some (r_56, σ_56))
    else chk x1 128 (if (rd σ 2 x1) = 2 then
    bnd (m_X3_smallIn x1 σ) (fun r_56 σ_56 => some (r_56, σ_56))
    else chk x1 128 (if (rd σ 2 x1) = 3 then
    bnd (m_X3_users x1 σ) (fun r_74 σ_74 => some (r_74, σ_74))
    else some (0, σ))))
    else some ((-2), σ)
def f_X3_block_41 : Nat → Int32 → Int32 → Int32 → KS → KR
  | 0, _, _, _, _ => none
  | n + 1, x1, x2, x3, σ =>
    if (x2 + ((1 : Int32) <<< (x1 &&& 31))) ≤ x3 then
    some (x2, σ)
    else chk x3 128 (f_X3_block_41 n x1 x2 (x3 + 1) (wr σ 2 x3 4))
def m_X3_block (x1 : Int32) (σ : KS) : KR :=
    if x1 < 0 then
    some ((-2), σ)
    else if x1 < 8 then
    bnd (m_X3_layAside σ) (fun _ σ_14 => bnd (m_X3_takeBlock x1 σ_14) (fun r_19 σ_19 => if 0 ≤ r_19 then
    chk r_19 128 (f_X3_block_41 FU x1 r_19 r_19 (wr σ_19 5 r_19 x1))
    else bnd (m_X3_fail σ_19) (fun r_28 σ_28 => some (r_28, σ_28))))
    else some ((-2), σ)
def m_X3_frame (x1 x2 : Int32) (σ : KS) : KR :=
    bnd (m_X3_isLive x1 σ) (fun r_2 σ_2 => if r_2 = 0 then
    some ((-1), σ_2)
    else if x2 < 0 then
    some ((-1), σ_2)
    else chk x1 16 (if (rd σ_2 7 x1) ≤ x2 then
    some ((-1), σ_2)
    else chk ((256 * x1) + x2) 4096 (some ((rd σ_2 11 ((256 * x1) + x2)), σ_2))))
def m_X3_giveSmall (x1 : Int32) (σ : KS) : KR :=
    chk x1 512 (zchk 0 (bnd (m_X3_smallIn (x1 / 4) (wr σ 3 x1 0)) (fun r_11 σ_11 => if r_11 = 0 then
    bnd (m_X3_giveBlock (x1 / 4) 0 σ_11) (fun _ σ_22 => some (0, σ_22))
    else some (0, σ_11))))
def m_X3_has (x1 x2 : Int32) (σ : KS) : KR :=
    bnd (m_X3_isLive x1 σ) (fun r_2 σ_2 => if r_2 = 0 then
    some (0, σ_2)
    else if x2 < 0 then
    some (0, σ_2)
    else chk x1 16 (if (rd σ_2 7 x1) ≤ (x2 / 64) then
    some (0, σ_2)
    else some (1, σ_2)))
def f_X3_process_27 : Nat → Int32 → Int32 → Int32 → Int32 → KS → KR
  | 0, _, _, _, _, _ => none
  | n + 1, x1, x2, x3, x4, σ =>
    if 16 ≤ x4 then
    if x2 = 0 then
    chk x1 16 (some ((rd σ 6 x1), σ))
    else if x2 = 1 then
    chk x1 16 (if (rd σ 6 x1) = 1 then
    chk x1 16 (some ((rd σ 7 x1), σ))
    else some (0, σ))
    else if x2 = 2 then
    chk x1 16 (if (rd σ 6 x1) = 0 then
    some ((-1), σ)
    else chk x1 16 (some ((rd σ 8 x1), σ)))
    else if x2 = 3 then
    some (x3, σ)
    else bnd (m_X3_placeInRow x1 σ) (fun r_152 σ_152 => some (r_152, σ_152))
    else chk x4 16 (if (rd σ 6 x4) = 0 then
    f_X3_process_27 n x1 x2 (x3 + 0) (x4 + 1) σ
    else chk x4 16 (if (rd σ 8 x4) = x1 then
    f_X3_process_27 n x1 x2 (x3 + 1) (x4 + 1) σ
    else f_X3_process_27 n x1 x2 (x3 + 0) (x4 + 1) σ))
def m_X3_process (x1 x2 : Int32) (σ : KS) : KR :=
    if x1 < 0 then
    some ((-2), σ)
    else if 16 ≤ x1 then
    some ((-2), σ)
    else if x2 < 0 then
    some ((-2), σ)
    else if x2 ≤ 4 then
    f_X3_process_27 FU x1 x2 0 0 σ
    else some ((-2), σ)
def m_X3_takeFrame (x1 : Int32) (σ : KS) : KR :=
    bnd (m_X3_takeBlock 0 σ) (fun r_2 σ_2 => if r_2 < 0 then
    some (r_2, σ_2)
    else chk r_2 128 (some (r_2, (wr σ_2 2 r_2 x1))))
def m_X3_unblock (x1 : Int32) (σ : KS) : KR :=
    if x1 < 0 then
    some ((-2), σ)
    else if 128 ≤ x1 then
    some ((-2), σ)
    else chk x1 128 (if 0 ≤ (rd σ 5 x1) then
    chk x1 128 (chk x1 128 (bnd (m_X3_giveBlock x1 (rd σ 5 x1) (wr σ 5 x1 (-1))) (fun _ σ_40 => some ((rd σ 5 x1), σ_40))))
    else some ((-2), σ))
def m_X3_dropPage (x1 : Int32) (σ : KS) : KR :=
    chk x1 16 (chk ((256 * x1) + ((rd σ 7 x1) - 1)) 4096 (bnd (m_X3_users (rd σ 11 ((256 * x1) + ((rd σ 7 x1) - 1))) σ) (fun r_24 σ_24 => if r_24 = 1 then
    bnd (m_X3_giveBlock (rd σ 11 ((256 * x1) + ((rd σ 7 x1) - 1))) 0 σ_24) (fun _ σ_34 => chk x1 16 (if (((rd σ 7 x1) - 1) - ((rd σ 7 x1) - 1) / 16 * 16) = 0 then
    chk ((16 * x1) + (((rd σ 7 x1) - 1) / 16)) 256 (bnd (m_X3_giveSmall (rd (wr σ_34 7 x1 ((rd σ 7 x1) - 1)) 12 ((16 * x1) + (((rd σ 7 x1) - 1) / 16))) (wr σ_34 7 x1 ((rd σ 7 x1) - 1))) (fun _ σ_66 => some (0, σ_66)))
    else some (0, (wr σ_34 7 x1 ((rd σ 7 x1) - 1)))))
    else chk x1 16 (if (((rd σ 7 x1) - 1) - ((rd σ 7 x1) - 1) / 16 * 16) = 0 then
    chk ((16 * x1) + (((rd σ 7 x1) - 1) / 16)) 256 (bnd (m_X3_giveSmall (rd (wr σ_24 7 x1 ((rd σ 7 x1) - 1)) 12 ((16 * x1) + (((rd σ 7 x1) - 1) / 16))) (wr σ_24 7 x1 ((rd σ 7 x1) - 1))) (fun _ σ_66 => some (0, σ_66)))
    else some (0, (wr σ_24 7 x1 ((rd σ 7 x1) - 1)))))))
def m_X3_load (x1 x2 : Int32) (σ : KS) : KR :=
    bnd (m_X3_has x1 x2 σ) (fun r_3 σ_3 => if r_3 = 0 then
    some (0, σ_3)
    else chk ((256 * x1) + (x2 / 64)) 4096 (chk ((64 * (rd σ_3 11 ((256 * x1) + (x2 / 64)))) + (x2 - x2 / 64 * 64)) 8192 (some ((rd σ_3 4 ((64 * (rd σ_3 11 ((256 * x1) + (x2 / 64)))) + (x2 - x2 / 64 * 64))), σ_3))))
def f_X3_store_78 : Nat → Int32 → Int32 → Int32 → Int32 → Int32 → Int32 → Int32 → KS → KR
  | 0, _, _, _, _, _, _, _, _ => none
  | n + 1, x1, x2, x3, x4, x5, x6, x7, σ =>
    if 64 ≤ x7 then
    chk x4 4096 (chk ((64 * x6) + (x2 - x2 / 64 * 64)) 8192 (some (0, (wr (wr (sv σ 1 ((gv σ 1) + 1)) 11 x4 x6) 4 ((64 * x6) + (x2 - x2 / 64 * 64)) x3))))
    else chk ((64 * x5) + x7) 8192 (chk ((64 * x6) + x7) 8192 (f_X3_store_78 n x1 x2 x3 x4 x5 x6 (x7 + 1) (wr σ 4 ((64 * x6) + x7) (rd σ 4 ((64 * x5) + x7)))))
def m_X3_store (x1 x2 x3 : Int32) (σ : KS) : KR :=
    bnd (m_X3_isLive x1 σ) (fun r_2 σ_2 => if r_2 = 0 then
    some ((-2), σ_2)
    else bnd (m_X3_has x1 x2 σ_2) (fun r_14 σ_14 => if r_14 = 0 then
    some ((-5), σ_14)
    else chk ((256 * x1) + (x2 / 64)) 4096 (bnd (m_X3_users (rd σ_14 11 ((256 * x1) + (x2 / 64))) σ_14) (fun r_47 σ_47 => if r_47 ≤ 1 then
    chk ((64 * (rd σ_14 11 ((256 * x1) + (x2 / 64)))) + (x2 - x2 / 64 * 64)) 8192 (some (0, (wr σ_47 4 ((64 * (rd σ_14 11 ((256 * x1) + (x2 / 64)))) + (x2 - x2 / 64 * 64)) x3)))
    else bnd (m_X3_layAside σ_47) (fun _ σ_55 => bnd (m_X3_takeFrame 3 σ_55) (fun r_60 σ_60 => if 0 ≤ r_60 then
    f_X3_store_78 FU x1 x2 x3 ((256 * x1) + (x2 / 64)) (rd σ_14 11 ((256 * x1) + (x2 / 64))) r_60 0 σ_60
    else bnd (m_X3_fail σ_60) (fun r_71 σ_71 => some (r_71, σ_71))))))))
def f_X3_takeSmall_4 : Nat → Int32 → Int32 → Int32 → KS → KR
  | 0, _, _, _, _ => none
  | n + 1, x1, x2, x3, σ =>
    if 128 ≤ x3 then
    if 0 ≤ x2 then
    if x2 < 0 then
    some (x2, σ)
    else chk x2 512 (zchk 1 (some (x2, (wr σ 3 x2 1))))
    else bnd (m_X3_takeFrame x1 σ) (fun r_47 σ_47 => if 0 ≤ r_47 then
    if (4 * r_47) < 0 then
    some ((4 * r_47), σ_47)
    else chk (4 * r_47) 512 (zchk 1 (some ((4 * r_47), (wr σ_47 3 (4 * r_47) 1))))
    else some ((-1), σ_47))
    else if 0 ≤ x2 then
    if 0 ≤ x2 then
    if x2 < 0 then
    some (x2, σ)
    else chk x2 512 (zchk 1 (some (x2, (wr σ 3 x2 1))))
    else bnd (m_X3_takeFrame x1 σ) (fun r_47 σ_47 => if 0 ≤ r_47 then
    if (4 * r_47) < 0 then
    some ((4 * r_47), σ_47)
    else chk (4 * r_47) 512 (zchk 1 (some ((4 * r_47), (wr σ_47 3 (4 * r_47) 1))))
    else some ((-1), σ_47))
    else chk x3 128 (if (rd σ 2 x3) = x1 then
    bnd (m_X3_freePlace x3 σ) (fun r_27 σ_27 => f_X3_takeSmall_4 n x1 r_27 (x3 + 1) σ_27)
    else f_X3_takeSmall_4 n x1 (-1) (x3 + 1) σ)
def m_X3_takeSmall (x1 : Int32) (σ : KS) : KR :=
    f_X3_takeSmall_4 FU x1 (-1) 0 σ
def m_X3_vanish (x1 : Int32) (σ : KS) : KR :=
    chk x1 16 (chk x1 16 (bnd (m_X3_giveSmall (rd (wr σ 6 x1 0) 10 x1) (wr σ 6 x1 0)) (fun _ σ_14 => some (0, σ_14))))
def f_X3_exit_81 : Nat → Int32 → Int32 → Int32 → Int32 → KS → KR
  | 0, _, _, _, _, _ => none
  | n + 1, x1, x2, x3, x4, σ =>
    if 16 ≤ x4 then
    chk x1 16 (if (rd σ 8 x1) = (-1) then
    bnd (m_X3_vanish x1 σ) (fun _ σ_152 => some (0, σ_152))
    else chk x1 16 (chk x1 16 (some (0, (wr (wr σ 6 x1 2) 9 x1 x2)))))
    else chk x4 16 (if (rd σ 6 x4) = 0 then
    f_X3_exit_81 n x1 x2 x3 (x4 + 1) σ
    else chk x4 16 (if (rd σ 8 x4) = x1 then
    chk x4 16 (if (rd σ 6 x4) = 2 then
    bnd (m_X3_vanish x4 σ) (fun _ σ_123 => chk x4 16 (f_X3_exit_81 n x1 x2 x3 (x4 + 1) (wr σ_123 8 x4 (-1))))
    else chk x4 16 (f_X3_exit_81 n x1 x2 x3 (x4 + 1) (wr σ 8 x4 (-1))))
    else f_X3_exit_81 n x1 x2 x3 (x4 + 1) σ))
def f_X3_exit_61 : Nat → Int32 → Int32 → Int32 → Int32 → KS → KR
  | 0, _, _, _, _, _ => none
  | n + 1, x1, x2, x3, x4, σ =>
    chk x1 16 (if (rd σ 7 x1) ≤ 0 then
    f_X3_exit_81 FU x1 x2 x3 0 σ
    else bnd (m_X3_dropPage x1 σ) (fun _ σ_72 => f_X3_exit_61 n x1 x2 x3 x4 σ_72))
def f_X3_exit_30 : Nat → Int32 → Int32 → Int32 → Int32 → KS → KR
  | 0, _, _, _, _, _ => none
  | n + 1, x1, x2, x3, x4, σ =>
    if (gv σ 0) ≤ x4 then
    f_X3_exit_61 FU x1 x2 x3 x4 σ
    else chk (x4 + 1) 16 (chk x4 16 (f_X3_exit_30 n x1 x2 x3 (x4 + 1) (wr σ 13 x4 (rd σ 13 (x4 + 1)))))
def m_X3_exit (x1 x2 : Int32) (σ : KS) : KR :=
    bnd (m_X3_isLive x1 σ) (fun r_2 σ_2 => if r_2 = 0 then
    some ((-2), σ_2)
    else bnd (m_X3_placeInRow x1 σ_2) (fun r_13 σ_13 => f_X3_exit_30 FU x1 x2 r_13 r_13 (sv σ_13 0 ((gv σ_13 0) - 1))))
def f_X3_fork_131 : Nat → Int32 → Int32 → Int32 → Int32 → Int32 → KS → KR
  | 0, _, _, _, _, _, _ => none
  | n + 1, x1, x2, x3, x4, x5, σ =>
    chk x2 16 (if (rd σ 7 x2) ≤ x5 then
    some (x2, σ)
    else chk ((256 * x1) + x5) 4096 (chk ((256 * x2) + x5) 4096 (f_X3_fork_131 n x1 x2 x3 x4 (x5 + 1) (wr σ 11 ((256 * x2) + x5) (rd σ 11 ((256 * x1) + x5))))))
def f_X3_fork_59 : Nat → Int32 → Int32 → Int32 → Int32 → Int32 → KS → KR
  | 0, _, _, _, _, _, _ => none
  | n + 1, x1, x2, x3, x4, x5, σ =>
    if x4 ≤ x5 then
    bnd (m_X3_begin x2 x3 x1 σ) (fun _ σ_113 => chk x1 16 (chk x2 16 (f_X3_fork_131 FU x1 x2 x3 x4 0 (wr σ_113 7 x2 (rd σ_113 7 x1)))))
    else bnd (m_X3_takeSmall 2 σ) (fun r_79 σ_79 => chk ((16 * x2) + x5) 256 (chk ((16 * x2) + x5) 256 (if 0 ≤ (rd (wr σ_79 12 ((16 * x2) + x5) r_79) 12 ((16 * x2) + x5)) then
    f_X3_fork_59 n x1 x2 x3 x4 (x5 + 1) (wr σ_79 12 ((16 * x2) + x5) r_79)
    else bnd (m_X3_fail (wr σ_79 12 ((16 * x2) + x5) r_79)) (fun r_99 σ_99 => some (r_99, σ_99)))))
def m_X3_fork (x1 : Int32) (σ : KS) : KR :=
    bnd (m_X3_isLive x1 σ) (fun r_2 σ_2 => if r_2 = 0 then
    some ((-2), σ_2)
    else bnd (m_X3_unusedNumber σ_2) (fun r_12 σ_12 => if 0 ≤ r_12 then
    bnd (m_X3_layAside σ_12) (fun _ σ_24 => bnd (m_X3_takeSmall 1 σ_24) (fun r_29 σ_29 => if 0 ≤ r_29 then
    chk x1 16 (f_X3_fork_59 FU x1 r_12 r_29 (((rd σ_29 7 x1) + 15) / 16) 0 σ_29)
    else bnd (m_X3_fail σ_29) (fun r_38 σ_38 => some (r_38, σ_38))))
    else some ((-4), σ_12)))
def f_X3_grow_197 (kk : Int32 → Int32 → Int64 → Int32 → Int32 → KS → KR) : Nat → Int32 → Int32 → Int64 → Int32 → Int32 → Int32 → KS → KR
  | 0, _, _, _, _, _, _, _ => none
  | n + 1, x1, x2, x3, x5, x6, x7, σ =>
    if 64 ≤ x7 then
    kk x1 x2 x3 x5 (x6 + 1) σ
    else chk ((256 * x1) + x6) 4096 (chk ((64 * (rd σ 11 ((256 * x1) + x6))) + x7) 8192 (f_X3_grow_197 kk n x1 x2 x3 x5 x6 (x7 + 1) (wr σ 4 ((64 * (rd σ 11 ((256 * x1) + x6))) + x7) 0)))
def f_X3_grow_186 : Nat → Int32 → Int32 → Int64 → Int32 → Int32 → KS → KR
  | 0, _, _, _, _, _, _ => none
  | n + 1, x1, x2, x3, x5, x6, σ =>
    if 0 ≤ (lg_cmp x6.toInt64 x3) then
    chk x1 16 (some (x5, (wr σ 7 x1 x3.toInt32)))
    else f_X3_grow_197 (fun y1 y2 y3 y5 y6 σ => f_X3_grow_186 n y1 y2 y3 y5 y6 σ) FU x1 x2 x3 x5 x6 0 σ
def f_X3_grow_85 : Nat → Int32 → Int32 → Int64 → Int32 → Int32 → KS → KR
  | 0, _, _, _, _, _, _ => none
  | n + 1, x1, x2, x3, x5, x6, σ =>
    if 0 ≤ (lg_cmp x6.toInt64 x3) then
    f_X3_grow_186 FU x1 x2 x3 x5 x5 σ
    else if (x6 - x6 / 16 * 16) = 0 then
    bnd (m_X3_takeSmall 2 σ) (fun r_117 σ_117 => chk ((16 * x1) + (x6 / 16)) 256 (chk ((16 * x1) + (x6 / 16)) 256 (if 0 ≤ (rd (wr σ_117 12 ((16 * x1) + (x6 / 16)) r_117) 12 ((16 * x1) + (x6 / 16))) then
    bnd (m_X3_takeFrame 3 (wr σ_117 12 ((16 * x1) + (x6 / 16)) r_117)) (fun r_146 σ_146 => if 0 ≤ r_146 then
    chk ((256 * x1) + x6) 4096 (f_X3_grow_85 n x1 x2 x3 x5 (x6 + 1) (wr σ_146 11 ((256 * x1) + x6) r_146))
    else bnd (m_X3_fail σ_146) (fun r_157 σ_157 => some (r_157, σ_157)))
    else bnd (m_X3_fail (wr σ_117 12 ((16 * x1) + (x6 / 16)) r_117)) (fun r_140 σ_140 => some (r_140, σ_140)))))
    else bnd (m_X3_takeFrame 3 σ) (fun r_146 σ_146 => if 0 ≤ r_146 then
    chk ((256 * x1) + x6) 4096 (f_X3_grow_85 n x1 x2 x3 x5 (x6 + 1) (wr σ_146 11 ((256 * x1) + x6) r_146))
    else bnd (m_X3_fail σ_146) (fun r_157 σ_157 => some (r_157, σ_157)))
def f_X3_grow_54 : Nat → Int32 → Int32 → Int64 → Int32 → KS → KR
  | 0, _, _, _, _, _ => none
  | n + 1, x1, x2, x3, x5, σ =>
    chk x1 16 (if (lg_cmp ((rd σ 7 x1).toInt64) x3) ≤ 0 then
    some (x5, σ)
    else bnd (m_X3_dropPage x1 σ) (fun _ σ_68 => f_X3_grow_54 n x1 x2 x3 x5 σ_68))
def m_X3_grow (x1 x2 : Int32) (σ : KS) : KR :=
    bnd (m_X3_isLive x1 σ) (fun r_2 σ_2 => if r_2 = 0 then
    if (lg_cmp (-1) 0) < 0 then
    some ((-2), σ_2)
    else if (lg_cmp (-1) 256) ≤ 0 then
    chk x1 16 (if 0 < x2 then
    bnd (m_X3_layAside σ_2) (fun _ σ_78 => f_X3_grow_85 FU x1 x2 (-1) (rd σ_2 7 x1) (rd σ_2 7 x1) σ_78)
    else f_X3_grow_54 FU x1 x2 (-1) (rd σ_2 7 x1) σ_2)
    else some ((-2), σ_2)
    else chk x1 16 (if (lg_cmp (((rd σ_2 7 x1).toInt64) + x2.toInt64) 0) < 0 then
    some ((-2), σ_2)
    else if (lg_cmp (((rd σ_2 7 x1).toInt64) + x2.toInt64) 256) ≤ 0 then
    chk x1 16 (if 0 < x2 then
    bnd (m_X3_layAside σ_2) (fun _ σ_78 => f_X3_grow_85 FU x1 x2 (((rd σ_2 7 x1).toInt64) + x2.toInt64) (rd σ_2 7 x1) (rd σ_2 7 x1) σ_78)
    else f_X3_grow_54 FU x1 x2 (((rd σ_2 7 x1).toInt64) + x2.toInt64) (rd σ_2 7 x1) σ_2)
    else some ((-2), σ_2)))
def f_X3_reap_15 : Nat → Int32 → Int32 → Int32 → KS → KR
  | 0, _, _, _, _ => none
  | n + 1, x1, x2, x3, σ =>
    if 16 ≤ x3 then
    if x2 = 0 then
    some ((-6), σ)
    else some ((-7), σ)
    else chk x3 16 (if (rd σ 6 x3) = 0 then
    f_X3_reap_15 n x1 (x2 + 0) (x3 + 1) σ
    else chk x3 16 (if (rd σ 8 x3) = x1 then
    chk x3 16 (if (rd σ 6 x3) = 2 then
    bnd (m_X3_vanish x3 σ) (fun _ σ_64 => chk x3 16 (some (((256 * x3) + ((rd σ_64 9 x3) &&& 255)), σ_64)))
    else f_X3_reap_15 n x1 (x2 + 1) (x3 + 1) σ)
    else f_X3_reap_15 n x1 (x2 + 0) (x3 + 1) σ))
def m_X3_reap (x1 : Int32) (σ : KS) : KR :=
    bnd (m_X3_isLive x1 σ) (fun r_2 σ_2 => if r_2 = 0 then
    some ((-2), σ_2)
    else f_X3_reap_15 FU x1 0 0 σ_2)
def m_X3_spawn (σ : KS) : KR :=
    bnd (m_X3_unusedNumber σ) (fun r_1 σ_1 => if 0 ≤ r_1 then
    bnd (m_X3_layAside σ_1) (fun _ σ_13 => bnd (m_X3_takeSmall 1 σ_13) (fun r_18 σ_18 => if 0 ≤ r_18 then
    bnd (m_X3_begin r_1 r_18 (-1) σ_18) (fun _ σ_35 => some (r_1, σ_35))
    else bnd (m_X3_fail σ_18) (fun r_27 σ_27 => some (r_27, σ_27))))
    else some ((-4), σ_1))
