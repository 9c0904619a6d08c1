section
-- ===== PART A: goes FIRST, ahead of the names: the tables' words, and 'selects' of the private methods out of them =====
/-- a private method of a class that the tables say can be made, by its rows of tables_1 -/
def lw_okq (q : MethodName × Nat) : Prop := (q.1.cls ≠ "java/lang/invoke/MethodHandle" ∧ q.1.cls ≠ "java/lang/invoke/VarHandle") ∧ Cond.instantiable q.1.cls q.2 ∈ tables_1 ∧ Cond.privateMethod q.1 ∈ tables_1 ∧ Cond.instanceMethod q.1 ∈ tables_1
theorem lw_p0 : lw_okq (⟨"PageKernel", "makeProcess", "(I)I"⟩, 16) := ⟨⟨by decide +kernel, by decide +kernel⟩, List.mem_of_getElem? (i := 7) (by decide +kernel), List.mem_of_getElem? (i := 95) (by decide +kernel), List.mem_of_getElem? (i := 96) (by decide +kernel)⟩
theorem lw_p1 : lw_okq (⟨"PageKernel", "leastUnused", "()I"⟩, 16) := ⟨⟨by decide +kernel, by decide +kernel⟩, List.mem_of_getElem? (i := 7) (by decide +kernel), List.mem_of_getElem? (i := 99) (by decide +kernel), List.mem_of_getElem? (i := 100) (by decide +kernel)⟩
theorem lw_p2 : lw_okq (⟨"PageKernel$Places", "leastWithRoom", "()I"⟩, 2) := ⟨⟨by decide +kernel, by decide +kernel⟩, List.mem_of_getElem? (i := 29) (by decide +kernel), List.mem_of_getElem? (i := 110) (by decide +kernel), List.mem_of_getElem? (i := 111) (by decide +kernel)⟩
theorem lw_p3 : lw_okq (⟨"PageKernel$Blocks", "leaveOut", "(II)V"⟩, 2) := ⟨⟨by decide +kernel, by decide +kernel⟩, List.mem_of_getElem? (i := 15) (by decide +kernel), List.mem_of_getElem? (i := 129) (by decide +kernel), List.mem_of_getElem? (i := 130) (by decide +kernel)⟩
theorem lw_p4 : lw_okq (⟨"PageKernel$Blocks", "putIn", "(II)V"⟩, 2) := ⟨⟨by decide +kernel, by decide +kernel⟩, List.mem_of_getElem? (i := 15) (by decide +kernel), List.mem_of_getElem? (i := 136) (by decide +kernel), List.mem_of_getElem? (i := 137) (by decide +kernel)⟩
theorem lw_p5 : lw_okq (⟨"PageKernel", "refuse", "()I"⟩, 16) := ⟨⟨by decide +kernel, by decide +kernel⟩, List.mem_of_getElem? (i := 7) (by decide +kernel), List.mem_of_getElem? (i := 141) (by decide +kernel), List.mem_of_getElem? (i := 142) (by decide +kernel)⟩
theorem lw_p6 : lw_okq (⟨"PageKernel", "isLive", "(I)Z"⟩, 16) := ⟨⟨by decide +kernel, by decide +kernel⟩, List.mem_of_getElem? (i := 7) (by decide +kernel), List.mem_of_getElem? (i := 145) (by decide +kernel), List.mem_of_getElem? (i := 146) (by decide +kernel)⟩
theorem lw_p7 : lw_okq (⟨"PageKernel", "takeTables", "(II)Z"⟩, 16) := ⟨⟨by decide +kernel, by decide +kernel⟩, List.mem_of_getElem? (i := 7) (by decide +kernel), List.mem_of_getElem? (i := 149) (by decide +kernel), List.mem_of_getElem? (i := 150) (by decide +kernel)⟩
theorem lw_p8 : lw_okq (⟨"PageKernel", "addTable", "(II)Z"⟩, 16) := ⟨⟨by decide +kernel, by decide +kernel⟩, List.mem_of_getElem? (i := 7) (by decide +kernel), List.mem_of_getElem? (i := 153) (by decide +kernel), List.mem_of_getElem? (i := 154) (by decide +kernel)⟩
theorem lw_p9 : lw_okq (⟨"PageKernel", "tableIndex", "(II)I"⟩, 16) := ⟨⟨by decide +kernel, by decide +kernel⟩, List.mem_of_getElem? (i := 7) (by decide +kernel), List.mem_of_getElem? (i := 157) (by decide +kernel), List.mem_of_getElem? (i := 158) (by decide +kernel)⟩
theorem lw_p10 : lw_okq (⟨"PageKernel", "setWord", "(II)V"⟩, 16) := ⟨⟨by decide +kernel, by decide +kernel⟩, List.mem_of_getElem? (i := 7) (by decide +kernel), List.mem_of_getElem? (i := 161) (by decide +kernel), List.mem_of_getElem? (i := 162) (by decide +kernel)⟩
theorem lw_p11 : lw_okq (⟨"PageKernel", "dropTable", "(II)V"⟩, 16) := ⟨⟨by decide +kernel, by decide +kernel⟩, List.mem_of_getElem? (i := 7) (by decide +kernel), List.mem_of_getElem? (i := 165) (by decide +kernel), List.mem_of_getElem? (i := 166) (by decide +kernel)⟩
theorem lw_p12 : lw_okq (⟨"PageKernel", "wordAt", "(I)I"⟩, 16) := ⟨⟨by decide +kernel, by decide +kernel⟩, List.mem_of_getElem? (i := 7) (by decide +kernel), List.mem_of_getElem? (i := 169) (by decide +kernel), List.mem_of_getElem? (i := 170) (by decide +kernel)⟩
theorem lw_p13 : lw_okq (⟨"PageKernel$Blocks", "isFreeBlock", "(II)Z"⟩, 2) := ⟨⟨by decide +kernel, by decide +kernel⟩, List.mem_of_getElem? (i := 15) (by decide +kernel), List.mem_of_getElem? (i := 181) (by decide +kernel), List.mem_of_getElem? (i := 182) (by decide +kernel)⟩
theorem lw_p14 : lw_okq (⟨"PageKernel", "sharePages", "(II)V"⟩, 16) := ⟨⟨by decide +kernel, by decide +kernel⟩, List.mem_of_getElem? (i := 7) (by decide +kernel), List.mem_of_getElem? (i := 185) (by decide +kernel), List.mem_of_getElem? (i := 186) (by decide +kernel)⟩
theorem lw_p15 : lw_okq (⟨"PageKernel", "frameOfPage", "(II)I"⟩, 16) := ⟨⟨by decide +kernel, by decide +kernel⟩, List.mem_of_getElem? (i := 7) (by decide +kernel), List.mem_of_getElem? (i := 189) (by decide +kernel), List.mem_of_getElem? (i := 190) (by decide +kernel)⟩
def lw_privs_1 : List (MethodName × Nat) := [(⟨"PageKernel", "makeProcess", "(I)I"⟩, 16), (⟨"PageKernel", "leastUnused", "()I"⟩, 16), (⟨"PageKernel$Places", "leastWithRoom", "()I"⟩, 2), (⟨"PageKernel$Blocks", "leaveOut", "(II)V"⟩, 2), (⟨"PageKernel$Blocks", "putIn", "(II)V"⟩, 2), (⟨"PageKernel", "refuse", "()I"⟩, 16), (⟨"PageKernel", "isLive", "(I)Z"⟩, 16), (⟨"PageKernel", "takeTables", "(II)Z"⟩, 16), (⟨"PageKernel", "addTable", "(II)Z"⟩, 16), (⟨"PageKernel", "tableIndex", "(II)I"⟩, 16), (⟨"PageKernel", "setWord", "(II)V"⟩, 16), (⟨"PageKernel", "dropTable", "(II)V"⟩, 16), (⟨"PageKernel", "wordAt", "(I)I"⟩, 16), (⟨"PageKernel$Blocks", "isFreeBlock", "(II)Z"⟩, 2), (⟨"PageKernel", "sharePages", "(II)V"⟩, 16), (⟨"PageKernel", "frameOfPage", "(II)I"⟩, 16)]
theorem lw_r1 : ∀ q ∈ lw_privs_1, lw_okq q := List.forall_mem_cons.mpr ⟨lw_p0, List.forall_mem_cons.mpr ⟨lw_p1, List.forall_mem_cons.mpr ⟨lw_p2, List.forall_mem_cons.mpr ⟨lw_p3, List.forall_mem_cons.mpr ⟨lw_p4, List.forall_mem_cons.mpr ⟨lw_p5, List.forall_mem_cons.mpr ⟨lw_p6, List.forall_mem_cons.mpr ⟨lw_p7, List.forall_mem_cons.mpr ⟨lw_p8, List.forall_mem_cons.mpr ⟨lw_p9, List.forall_mem_cons.mpr ⟨lw_p10, List.forall_mem_cons.mpr ⟨lw_p11, List.forall_mem_cons.mpr ⟨lw_p12, List.forall_mem_cons.mpr ⟨lw_p13, List.forall_mem_cons.mpr ⟨lw_p14, List.forall_mem_cons.mpr ⟨lw_p15, fun _ h => absurd h List.not_mem_nil⟩⟩⟩⟩⟩⟩⟩⟩⟩⟩⟩⟩⟩⟩⟩⟩
theorem lw_p16 : lw_okq (⟨"PageKernel", "hasPage", "(II)Z"⟩, 16) := ⟨⟨by decide +kernel, by decide +kernel⟩, List.mem_of_getElem? (i := 7) (by decide +kernel), List.mem_of_getElem? (i := 193) (by decide +kernel), List.mem_of_getElem? (i := 194) (by decide +kernel)⟩
theorem lw_p17 : lw_okq (⟨"PageKernel", "pageIndex", "(II)I"⟩, 16) := ⟨⟨by decide +kernel, by decide +kernel⟩, List.mem_of_getElem? (i := 7) (by decide +kernel), List.mem_of_getElem? (i := 197) (by decide +kernel), List.mem_of_getElem? (i := 198) (by decide +kernel)⟩
theorem lw_p18 : lw_okq (⟨"PageKernel", "joinRow", "(I)V"⟩, 16) := ⟨⟨by decide +kernel, by decide +kernel⟩, List.mem_of_getElem? (i := 7) (by decide +kernel), List.mem_of_getElem? (i := 202) (by decide +kernel), List.mem_of_getElem? (i := 203) (by decide +kernel)⟩
theorem lw_p19 : lw_okq (⟨"PageKernel", "addPage", "(II)Z"⟩, 16) := ⟨⟨by decide +kernel, by decide +kernel⟩, List.mem_of_getElem? (i := 7) (by decide +kernel), List.mem_of_getElem? (i := 214) (by decide +kernel), List.mem_of_getElem? (i := 215) (by decide +kernel)⟩
theorem lw_p20 : lw_okq (⟨"PageKernel", "takePageFrame", "()I"⟩, 16) := ⟨⟨by decide +kernel, by decide +kernel⟩, List.mem_of_getElem? (i := 7) (by decide +kernel), List.mem_of_getElem? (i := 218) (by decide +kernel), List.mem_of_getElem? (i := 219) (by decide +kernel)⟩
theorem lw_p21 : lw_okq (⟨"PageKernel", "shrinkTo", "(II)V"⟩, 16) := ⟨⟨by decide +kernel, by decide +kernel⟩, List.mem_of_getElem? (i := 7) (by decide +kernel), List.mem_of_getElem? (i := 223) (by decide +kernel), List.mem_of_getElem? (i := 224) (by decide +kernel)⟩
theorem lw_p22 : lw_okq (⟨"PageKernel", "dropPageFrame", "(I)V"⟩, 16) := ⟨⟨by decide +kernel, by decide +kernel⟩, List.mem_of_getElem? (i := 7) (by decide +kernel), List.mem_of_getElem? (i := 227) (by decide +kernel), List.mem_of_getElem? (i := 228) (by decide +kernel)⟩
theorem lw_p23 : lw_okq (⟨"PageKernel", "wordIndex", "(II)I"⟩, 16) := ⟨⟨by decide +kernel, by decide +kernel⟩, List.mem_of_getElem? (i := 7) (by decide +kernel), List.mem_of_getElem? (i := 239) (by decide +kernel), List.mem_of_getElem? (i := 240) (by decide +kernel)⟩
theorem lw_p24 : lw_okq (⟨"PageKernel", "ownPage", "(II)Z"⟩, 16) := ⟨⟨by decide +kernel, by decide +kernel⟩, List.mem_of_getElem? (i := 7) (by decide +kernel), List.mem_of_getElem? (i := 251) (by decide +kernel), List.mem_of_getElem? (i := 252) (by decide +kernel)⟩
theorem lw_p25 : lw_okq (⟨"PageKernel", "leaveRow", "(I)V"⟩, 16) := ⟨⟨by decide +kernel, by decide +kernel⟩, List.mem_of_getElem? (i := 7) (by decide +kernel), List.mem_of_getElem? (i := 259) (by decide +kernel), List.mem_of_getElem? (i := 260) (by decide +kernel)⟩
theorem lw_p26 : lw_okq (⟨"PageKernel", "leaveChildren", "(I)V"⟩, 16) := ⟨⟨by decide +kernel, by decide +kernel⟩, List.mem_of_getElem? (i := 7) (by decide +kernel), List.mem_of_getElem? (i := 263) (by decide +kernel), List.mem_of_getElem? (i := 264) (by decide +kernel)⟩
theorem lw_p27 : lw_okq (⟨"PageKernel", "removeProcess", "(I)V"⟩, 16) := ⟨⟨by decide +kernel, by decide +kernel⟩, List.mem_of_getElem? (i := 7) (by decide +kernel), List.mem_of_getElem? (i := 267) (by decide +kernel), List.mem_of_getElem? (i := 268) (by decide +kernel)⟩
theorem lw_p28 : lw_okq (⟨"PageKernel", "childrenOf", "(I)I"⟩, 16) := ⟨⟨by decide +kernel, by decide +kernel⟩, List.mem_of_getElem? (i := 7) (by decide +kernel), List.mem_of_getElem? (i := 275) (by decide +kernel), List.mem_of_getElem? (i := 276) (by decide +kernel)⟩
theorem lw_p29 : lw_okq (⟨"PageKernel", "kindOf", "(I)I"⟩, 16) := ⟨⟨by decide +kernel, by decide +kernel⟩, List.mem_of_getElem? (i := 7) (by decide +kernel), List.mem_of_getElem? (i := 314) (by decide +kernel), List.mem_of_getElem? (i := 315) (by decide +kernel)⟩
theorem lw_p30 : lw_okq (⟨"PageKernel", "isKernels", "(I)Z"⟩, 16) := ⟨⟨by decide +kernel, by decide +kernel⟩, List.mem_of_getElem? (i := 7) (by decide +kernel), List.mem_of_getElem? (i := 328) (by decide +kernel), List.mem_of_getElem? (i := 329) (by decide +kernel)⟩
theorem lw_p31 : lw_okq (⟨"PageKernel", "placeInRow", "(I)I"⟩, 16) := ⟨⟨by decide +kernel, by decide +kernel⟩, List.mem_of_getElem? (i := 7) (by decide +kernel), List.mem_of_getElem? (i := 336) (by decide +kernel), List.mem_of_getElem? (i := 337) (by decide +kernel)⟩
def lw_privs_2 : List (MethodName × Nat) := [(⟨"PageKernel", "hasPage", "(II)Z"⟩, 16), (⟨"PageKernel", "pageIndex", "(II)I"⟩, 16), (⟨"PageKernel", "joinRow", "(I)V"⟩, 16), (⟨"PageKernel", "addPage", "(II)Z"⟩, 16), (⟨"PageKernel", "takePageFrame", "()I"⟩, 16), (⟨"PageKernel", "shrinkTo", "(II)V"⟩, 16), (⟨"PageKernel", "dropPageFrame", "(I)V"⟩, 16), (⟨"PageKernel", "wordIndex", "(II)I"⟩, 16), (⟨"PageKernel", "ownPage", "(II)Z"⟩, 16), (⟨"PageKernel", "leaveRow", "(I)V"⟩, 16), (⟨"PageKernel", "leaveChildren", "(I)V"⟩, 16), (⟨"PageKernel", "removeProcess", "(I)V"⟩, 16), (⟨"PageKernel", "childrenOf", "(I)I"⟩, 16), (⟨"PageKernel", "kindOf", "(I)I"⟩, 16), (⟨"PageKernel", "isKernels", "(I)Z"⟩, 16), (⟨"PageKernel", "placeInRow", "(I)I"⟩, 16)]
theorem lw_r2 : ∀ q ∈ lw_privs_2, lw_okq q := List.forall_mem_cons.mpr ⟨lw_p16, List.forall_mem_cons.mpr ⟨lw_p17, List.forall_mem_cons.mpr ⟨lw_p18, List.forall_mem_cons.mpr ⟨lw_p19, List.forall_mem_cons.mpr ⟨lw_p20, List.forall_mem_cons.mpr ⟨lw_p21, List.forall_mem_cons.mpr ⟨lw_p22, List.forall_mem_cons.mpr ⟨lw_p23, List.forall_mem_cons.mpr ⟨lw_p24, List.forall_mem_cons.mpr ⟨lw_p25, List.forall_mem_cons.mpr ⟨lw_p26, List.forall_mem_cons.mpr ⟨lw_p27, List.forall_mem_cons.mpr ⟨lw_p28, List.forall_mem_cons.mpr ⟨lw_p29, List.forall_mem_cons.mpr ⟨lw_p30, List.forall_mem_cons.mpr ⟨lw_p31, fun _ h => absurd h List.not_mem_nil⟩⟩⟩⟩⟩⟩⟩⟩⟩⟩⟩⟩⟩⟩⟩⟩
theorem lw_p32 : lw_okq (⟨"PageKernel", "countInState", "(I)I"⟩, 16) := ⟨⟨by decide +kernel, by decide +kernel⟩, List.mem_of_getElem? (i := 7) (by decide +kernel), List.mem_of_getElem? (i := 344) (by decide +kernel), List.mem_of_getElem? (i := 345) (by decide +kernel)⟩
theorem lw_p33 : lw_okq (⟨"PageKernelModel", "unusedNumber", "()I"⟩, 20) := ⟨⟨by decide +kernel, by decide +kernel⟩, List.mem_of_getElem? (i := 348) (by decide +kernel), List.mem_of_getElem? (i := 420) (by decide +kernel), List.mem_of_getElem? (i := 421) (by decide +kernel)⟩
theorem lw_p34 : lw_okq (⟨"PageKernelModel", "layAside", "()V"⟩, 20) := ⟨⟨by decide +kernel, by decide +kernel⟩, List.mem_of_getElem? (i := 348) (by decide +kernel), List.mem_of_getElem? (i := 424) (by decide +kernel), List.mem_of_getElem? (i := 425) (by decide +kernel)⟩
theorem lw_p35 : lw_okq (⟨"PageKernelModel", "takeSmall", "(I)I"⟩, 20) := ⟨⟨by decide +kernel, by decide +kernel⟩, List.mem_of_getElem? (i := 348) (by decide +kernel), List.mem_of_getElem? (i := 428) (by decide +kernel), List.mem_of_getElem? (i := 429) (by decide +kernel)⟩
theorem lw_p36 : lw_okq (⟨"PageKernelModel", "freePlace", "(I)I"⟩, 20) := ⟨⟨by decide +kernel, by decide +kernel⟩, List.mem_of_getElem? (i := 348) (by decide +kernel), List.mem_of_getElem? (i := 432) (by decide +kernel), List.mem_of_getElem? (i := 433) (by decide +kernel)⟩
theorem lw_p37 : lw_okq (⟨"PageKernelModel", "takeFrame", "(I)I"⟩, 20) := ⟨⟨by decide +kernel, by decide +kernel⟩, List.mem_of_getElem? (i := 348) (by decide +kernel), List.mem_of_getElem? (i := 436) (by decide +kernel), List.mem_of_getElem? (i := 437) (by decide +kernel)⟩
theorem lw_p38 : lw_okq (⟨"PageKernelModel", "takeBlock", "(I)I"⟩, 20) := ⟨⟨by decide +kernel, by decide +kernel⟩, List.mem_of_getElem? (i := 348) (by decide +kernel), List.mem_of_getElem? (i := 440) (by decide +kernel), List.mem_of_getElem? (i := 441) (by decide +kernel)⟩
theorem lw_p39 : lw_okq (⟨"PageKernelModel", "fail", "()I"⟩, 20) := ⟨⟨by decide +kernel, by decide +kernel⟩, List.mem_of_getElem? (i := 348) (by decide +kernel), List.mem_of_getElem? (i := 444) (by decide +kernel), List.mem_of_getElem? (i := 445) (by decide +kernel)⟩
theorem lw_p40 : lw_okq (⟨"PageKernelModel", "begin", "(III)V"⟩, 20) := ⟨⟨by decide +kernel, by decide +kernel⟩, List.mem_of_getElem? (i := 348) (by decide +kernel), List.mem_of_getElem? (i := 448) (by decide +kernel), List.mem_of_getElem? (i := 449) (by decide +kernel)⟩
theorem lw_p41 : lw_okq (⟨"PageKernelModel", "isLive", "(I)Z"⟩, 20) := ⟨⟨by decide +kernel, by decide +kernel⟩, List.mem_of_getElem? (i := 348) (by decide +kernel), List.mem_of_getElem? (i := 456) (by decide +kernel), List.mem_of_getElem? (i := 457) (by decide +kernel)⟩
theorem lw_p42 : lw_okq (⟨"PageKernelModel", "dropPage", "(I)V"⟩, 20) := ⟨⟨by decide +kernel, by decide +kernel⟩, List.mem_of_getElem? (i := 348) (by decide +kernel), List.mem_of_getElem? (i := 466) (by decide +kernel), List.mem_of_getElem? (i := 467) (by decide +kernel)⟩
theorem lw_p43 : lw_okq (⟨"PageKernelModel", "users", "(I)I"⟩, 20) := ⟨⟨by decide +kernel, by decide +kernel⟩, List.mem_of_getElem? (i := 348) (by decide +kernel), List.mem_of_getElem? (i := 470) (by decide +kernel), List.mem_of_getElem? (i := 471) (by decide +kernel)⟩
theorem lw_p44 : lw_okq (⟨"PageKernelModel", "giveBlock", "(II)V"⟩, 20) := ⟨⟨by decide +kernel, by decide +kernel⟩, List.mem_of_getElem? (i := 348) (by decide +kernel), List.mem_of_getElem? (i := 474) (by decide +kernel), List.mem_of_getElem? (i := 475) (by decide +kernel)⟩
theorem lw_p45 : lw_okq (⟨"PageKernelModel", "giveSmall", "(I)V"⟩, 20) := ⟨⟨by decide +kernel, by decide +kernel⟩, List.mem_of_getElem? (i := 348) (by decide +kernel), List.mem_of_getElem? (i := 478) (by decide +kernel), List.mem_of_getElem? (i := 479) (by decide +kernel)⟩
theorem lw_p46 : lw_okq (⟨"PageKernelModel", "smallIn", "(I)I"⟩, 20) := ⟨⟨by decide +kernel, by decide +kernel⟩, List.mem_of_getElem? (i := 348) (by decide +kernel), List.mem_of_getElem? (i := 482) (by decide +kernel), List.mem_of_getElem? (i := 483) (by decide +kernel)⟩
theorem lw_p47 : lw_okq (⟨"PageKernelModel", "placeInRow", "(I)I"⟩, 20) := ⟨⟨by decide +kernel, by decide +kernel⟩, List.mem_of_getElem? (i := 348) (by decide +kernel), List.mem_of_getElem? (i := 503) (by decide +kernel), List.mem_of_getElem? (i := 504) (by decide +kernel)⟩
def lw_privs_3 : List (MethodName × Nat) := [(⟨"PageKernel", "countInState", "(I)I"⟩, 16), (⟨"PageKernelModel", "unusedNumber", "()I"⟩, 20), (⟨"PageKernelModel", "layAside", "()V"⟩, 20), (⟨"PageKernelModel", "takeSmall", "(I)I"⟩, 20), (⟨"PageKernelModel", "freePlace", "(I)I"⟩, 20), (⟨"PageKernelModel", "takeFrame", "(I)I"⟩, 20), (⟨"PageKernelModel", "takeBlock", "(I)I"⟩, 20), (⟨"PageKernelModel", "fail", "()I"⟩, 20), (⟨"PageKernelModel", "begin", "(III)V"⟩, 20), (⟨"PageKernelModel", "isLive", "(I)Z"⟩, 20), (⟨"PageKernelModel", "dropPage", "(I)V"⟩, 20), (⟨"PageKernelModel", "users", "(I)I"⟩, 20), (⟨"PageKernelModel", "giveBlock", "(II)V"⟩, 20), (⟨"PageKernelModel", "giveSmall", "(I)V"⟩, 20), (⟨"PageKernelModel", "smallIn", "(I)I"⟩, 20), (⟨"PageKernelModel", "placeInRow", "(I)I"⟩, 20)]
theorem lw_r3 : ∀ q ∈ lw_privs_3, lw_okq q := List.forall_mem_cons.mpr ⟨lw_p32, List.forall_mem_cons.mpr ⟨lw_p33, List.forall_mem_cons.mpr ⟨lw_p34, List.forall_mem_cons.mpr ⟨lw_p35, List.forall_mem_cons.mpr ⟨lw_p36, List.forall_mem_cons.mpr ⟨lw_p37, List.forall_mem_cons.mpr ⟨lw_p38, List.forall_mem_cons.mpr ⟨lw_p39, List.forall_mem_cons.mpr ⟨lw_p40, List.forall_mem_cons.mpr ⟨lw_p41, List.forall_mem_cons.mpr ⟨lw_p42, List.forall_mem_cons.mpr ⟨lw_p43, List.forall_mem_cons.mpr ⟨lw_p44, List.forall_mem_cons.mpr ⟨lw_p45, List.forall_mem_cons.mpr ⟨lw_p46, List.forall_mem_cons.mpr ⟨lw_p47, fun _ h => absurd h List.not_mem_nil⟩⟩⟩⟩⟩⟩⟩⟩⟩⟩⟩⟩⟩⟩⟩⟩
theorem lw_p48 : lw_okq (⟨"PageKernelModel", "vanish", "(I)V"⟩, 20) := ⟨⟨by decide +kernel, by decide +kernel⟩, List.mem_of_getElem? (i := 348) (by decide +kernel), List.mem_of_getElem? (i := 507) (by decide +kernel), List.mem_of_getElem? (i := 508) (by decide +kernel)⟩
def lw_privs_4 : List (MethodName × Nat) := [(⟨"PageKernelModel", "vanish", "(I)V"⟩, 20)]
theorem lw_r4 : ∀ q ∈ lw_privs_4, lw_okq q := List.forall_mem_cons.mpr ⟨lw_p48, fun _ h => absurd h List.not_mem_nil⟩
def lw_privs : List (MethodName × Nat) := lw_privs_1 ++ (lw_privs_2 ++ (lw_privs_3 ++ (lw_privs_4)))
def lw_tbl : List Cond := k2_sels lw_privs ++ tables_1
theorem lw_privs_ok : ∀ q ∈ lw_privs, lw_okq q := by
  show ∀ q ∈ lw_privs_1 ++ (lw_privs_2 ++ (lw_privs_3 ++ (lw_privs_4))), lw_okq q
  exact List.forall_mem_append.mpr ⟨lw_r1, List.forall_mem_append.mpr ⟨lw_r2, List.forall_mem_append.mpr ⟨lw_r3, lw_r4⟩⟩⟩
end
section
def RX0 : String := "PageKernel$Blocks"
def TX0 : u_T := fun k => match k with
  | 0 => ("PageKernel$Blocks", "orders", "[I", true)
  | _ => ("PageKernel$Blocks", "counts", "[I", true)
def tyX0 : Nat → FieldType := fun k => match k with
  | 0 => .array .int
  | _ => .array .int
abbrev wsX00 : List Cond := u_ws RX0 TX0 2
theorem nmX0 : ∀ a, a < 2 → ∀ b, b < 2 → a ≠ b → (TX0 a).2.1 ≠ (TX0 b).2.1 := by decide +kernel
theorem tyX0_ok : ∀ k, k < 2 → parseFieldDescriptor (TX0 k).2.2.1 = some (tyX0 k) := by decide +kernel
abbrev cX0_init : ByteArray := prog_2_method_1_code
def yX0_init : MethodName := ⟨RX0, "<init>", "()V"⟩
abbrev cX0_countOf : ByteArray := prog_2_method_2_code
def yX0_countOf : MethodName := ⟨RX0, "countOf", "(I)I"⟩
abbrev cX0_leastOf : ByteArray := prog_2_method_3_code
def yX0_leastOf : MethodName := ⟨RX0, "leastOf", "(I)I"⟩
abbrev cX0_takeBlock : ByteArray := prog_2_method_4_code
def yX0_takeBlock : MethodName := ⟨RX0, "takeBlock", "(I)I"⟩
abbrev cX0_giveBlock : ByteArray := prog_2_method_5_code
def yX0_giveBlock : MethodName := ⟨RX0, "giveBlock", "(II)V"⟩
abbrev cX0_isFreeBlock : ByteArray := prog_2_method_6_code
def yX0_isFreeBlock : MethodName := ⟨RX0, "isFreeBlock", "(II)Z"⟩
abbrev cX0_putIn : ByteArray := prog_2_method_7_code
def yX0_putIn : MethodName := ⟨RX0, "putIn", "(II)V"⟩
abbrev cX0_leaveOut : ByteArray := prog_2_method_8_code
def yX0_leaveOut : MethodName := ⟨RX0, "leaveOut", "(II)V"⟩
def RX1 : String := "PageKernel$Places"
def TX1 : u_T := fun k => match k with
  | 0 => ("PageKernel$Places", "blocks", "LPageKernel$Blocks;", true)
  | _ => ("PageKernel$Places", "used", "[I", true)
def tyX1 : Nat → FieldType := fun k => match k with
  | 0 => .object "PageKernel$Blocks"
  | _ => .array .int
abbrev wsX10 : List Cond := u_ws RX1 TX1 2
theorem nmX1 : ∀ a, a < 2 → ∀ b, b < 2 → a ≠ b → (TX1 a).2.1 ≠ (TX1 b).2.1 := by decide +kernel
theorem tyX1_ok : ∀ k, k < 2 → parseFieldDescriptor (TX1 k).2.2.1 = some (tyX1 k) := by decide +kernel
abbrev cX1_init : ByteArray := prog_3_method_1_code
def yX1_init : MethodName := ⟨RX1, "<init>", "(LPageKernel$Blocks;)V"⟩
abbrev cX1_countIn : ByteArray := prog_3_method_2_code
def yX1_countIn : MethodName := ⟨RX1, "countIn", "(I)I"⟩
abbrev cX1_takePlace : ByteArray := prog_3_method_3_code
def yX1_takePlace : MethodName := ⟨RX1, "takePlace", "()I"⟩
abbrev cX1_givePlace : ByteArray := prog_3_method_4_code
def yX1_givePlace : MethodName := ⟨RX1, "givePlace", "(I)V"⟩
abbrev cX1_leastWithRoom : ByteArray := prog_3_method_5_code
def yX1_leastWithRoom : MethodName := ⟨RX1, "leastWithRoom", "()I"⟩
def RX2 : String := "PageKernel"
def TX2 : u_T := fun k => match k with
  | 0 => ("PageKernel", "blocks", "LPageKernel$Blocks;", true)
  | 1 => ("PageKernel", "records", "LPageKernel$Places;", true)
  | 2 => ("PageKernel", "tables", "LPageKernel$Places;", true)
  | 3 => ("PageKernel", "words", "[I", true)
  | 4 => ("PageKernel", "sharers", "[I", true)
  | 5 => ("PageKernel", "kernelOrder", "[I", true)
  | 6 => ("PageKernel", "states", "[I", true)
  | 7 => ("PageKernel", "parents", "[I", true)
  | 8 => ("PageKernel", "codes", "[I", true)
  | 9 => ("PageKernel", "breaks", "[I", true)
  | 10 => ("PageKernel", "recordPlaces", "[I", true)
  | 11 => ("PageKernel", "row", "[I", true)
  | 12 => ("PageKernel", "rowLength", "I", false)
  | 13 => ("PageKernel", "copies", "I", false)
  | 14 => ("PageKernel", "refusals", "I", false)
  | _ => ("PageKernel", "turns", "I", false)
def tyX2 : Nat → FieldType := fun k => match k with
  | 0 => .object "PageKernel$Blocks"
  | 1 => .object "PageKernel$Places"
  | 2 => .object "PageKernel$Places"
  | 3 => .array .int
  | 4 => .array .int
  | 5 => .array .int
  | 6 => .array .int
  | 7 => .array .int
  | 8 => .array .int
  | 9 => .array .int
  | 10 => .array .int
  | 11 => .array .int
  | 12 => .int
  | 13 => .int
  | 14 => .int
  | _ => .int
abbrev wsX20 : List Cond := u_ws RX2 TX2 16
theorem nmX2 : ∀ a, a < 16 → ∀ b, b < 16 → a ≠ b → (TX2 a).2.1 ≠ (TX2 b).2.1 := by decide +kernel
theorem tyX2_ok : ∀ k, k < 16 → parseFieldDescriptor (TX2 k).2.2.1 = some (tyX2 k) := by decide +kernel
abbrev cX2_init : ByteArray := prog_1_method_1_code
def yX2_init : MethodName := ⟨RX2, "<init>", "()V"⟩
abbrev cX2_spawn : ByteArray := prog_1_method_2_code
def yX2_spawn : MethodName := ⟨RX2, "spawn", "()I"⟩
abbrev cX2_fork : ByteArray := prog_1_method_3_code
def yX2_fork : MethodName := ⟨RX2, "fork", "(I)I"⟩
abbrev cX2_grow : ByteArray := prog_1_method_4_code
def yX2_grow : MethodName := ⟨RX2, "grow", "(II)I"⟩
abbrev cX2_load : ByteArray := prog_1_method_5_code
def yX2_load : MethodName := ⟨RX2, "load", "(II)I"⟩
abbrev cX2_has : ByteArray := prog_1_method_6_code
def yX2_has : MethodName := ⟨RX2, "has", "(II)Z"⟩
abbrev cX2_store : ByteArray := prog_1_method_7_code
def yX2_store : MethodName := ⟨RX2, "store", "(III)I"⟩
abbrev cX2_exit : ByteArray := prog_1_method_8_code
def yX2_exit : MethodName := ⟨RX2, "exit", "(II)I"⟩
abbrev cX2_reap : ByteArray := prog_1_method_9_code
def yX2_reap : MethodName := ⟨RX2, "reap", "(I)I"⟩
abbrev cX2_tick : ByteArray := prog_1_method_10_code
def yX2_tick : MethodName := ⟨RX2, "tick", "()I"⟩
abbrev cX2_current : ByteArray := prog_1_method_11_code
def yX2_current : MethodName := ⟨RX2, "current", "()I"⟩
abbrev cX2_block : ByteArray := prog_1_method_12_code
def yX2_block : MethodName := ⟨RX2, "block", "(I)I"⟩
abbrev cX2_unblock : ByteArray := prog_1_method_13_code
def yX2_unblock : MethodName := ⟨RX2, "unblock", "(I)I"⟩
abbrev cX2_freeFrames : ByteArray := prog_1_method_14_code
def yX2_freeFrames : MethodName := ⟨RX2, "freeFrames", "()I"⟩
abbrev cX2_free : ByteArray := prog_1_method_15_code
def yX2_free : MethodName := ⟨RX2, "free", "(II)I"⟩
abbrev cX2_frame : ByteArray := prog_1_method_16_code
def yX2_frame : MethodName := ⟨RX2, "frame", "(II)I"⟩
abbrev cX2_about : ByteArray := prog_1_method_17_code
def yX2_about : MethodName := ⟨RX2, "about", "(II)I"⟩
abbrev cX2_process : ByteArray := prog_1_method_18_code
def yX2_process : MethodName := ⟨RX2, "process", "(II)I"⟩
abbrev cX2_told : ByteArray := prog_1_method_19_code
def yX2_told : MethodName := ⟨RX2, "told", "(I)I"⟩
abbrev cX2_isFrame : ByteArray := prog_1_method_20_code
def yX2_isFrame : MethodName := ⟨RX2, "isFrame", "(I)Z"⟩
abbrev cX2_isOrder : ByteArray := prog_1_method_21_code
def yX2_isOrder : MethodName := ⟨RX2, "isOrder", "(I)Z"⟩
abbrev cX2_isNumber : ByteArray := prog_1_method_22_code
def yX2_isNumber : MethodName := ⟨RX2, "isNumber", "(I)Z"⟩
abbrev cX2_isLive : ByteArray := prog_1_method_23_code
def yX2_isLive : MethodName := ⟨RX2, "isLive", "(I)Z"⟩
abbrev cX2_hasPage : ByteArray := prog_1_method_24_code
def yX2_hasPage : MethodName := ⟨RX2, "hasPage", "(II)Z"⟩
abbrev cX2_refuse : ByteArray := prog_1_method_25_code
def yX2_refuse : MethodName := ⟨RX2, "refuse", "()I"⟩
abbrev cX2_makeProcess : ByteArray := prog_1_method_26_code
def yX2_makeProcess : MethodName := ⟨RX2, "makeProcess", "(I)I"⟩
abbrev cX2_removeProcess : ByteArray := prog_1_method_27_code
def yX2_removeProcess : MethodName := ⟨RX2, "removeProcess", "(I)V"⟩
abbrev cX2_leastUnused : ByteArray := prog_1_method_28_code
def yX2_leastUnused : MethodName := ⟨RX2, "leastUnused", "()I"⟩
abbrev cX2_countInState : ByteArray := prog_1_method_29_code
def yX2_countInState : MethodName := ⟨RX2, "countInState", "(I)I"⟩
abbrev cX2_childrenOf : ByteArray := prog_1_method_30_code
def yX2_childrenOf : MethodName := ⟨RX2, "childrenOf", "(I)I"⟩
abbrev cX2_leaveChildren : ByteArray := prog_1_method_31_code
def yX2_leaveChildren : MethodName := ⟨RX2, "leaveChildren", "(I)V"⟩
abbrev cX2_joinRow : ByteArray := prog_1_method_32_code
def yX2_joinRow : MethodName := ⟨RX2, "joinRow", "(I)V"⟩
abbrev cX2_leaveRow : ByteArray := prog_1_method_33_code
def yX2_leaveRow : MethodName := ⟨RX2, "leaveRow", "(I)V"⟩
abbrev cX2_placeInRow : ByteArray := prog_1_method_34_code
def yX2_placeInRow : MethodName := ⟨RX2, "placeInRow", "(I)I"⟩
abbrev cX2_takeTables : ByteArray := prog_1_method_35_code
def yX2_takeTables : MethodName := ⟨RX2, "takeTables", "(II)Z"⟩
abbrev cX2_sharePages : ByteArray := prog_1_method_36_code
def yX2_sharePages : MethodName := ⟨RX2, "sharePages", "(II)V"⟩
abbrev cX2_addPage : ByteArray := prog_1_method_37_code
def yX2_addPage : MethodName := ⟨RX2, "addPage", "(II)Z"⟩
abbrev cX2_shrinkTo : ByteArray := prog_1_method_38_code
def yX2_shrinkTo : MethodName := ⟨RX2, "shrinkTo", "(II)V"⟩
abbrev cX2_ownPage : ByteArray := prog_1_method_39_code
def yX2_ownPage : MethodName := ⟨RX2, "ownPage", "(II)Z"⟩
abbrev cX2_addTable : ByteArray := prog_1_method_40_code
def yX2_addTable : MethodName := ⟨RX2, "addTable", "(II)Z"⟩
abbrev cX2_dropTable : ByteArray := prog_1_method_41_code
def yX2_dropTable : MethodName := ⟨RX2, "dropTable", "(II)V"⟩
abbrev cX2_takePageFrame : ByteArray := prog_1_method_42_code
def yX2_takePageFrame : MethodName := ⟨RX2, "takePageFrame", "()I"⟩
abbrev cX2_dropPageFrame : ByteArray := prog_1_method_43_code
def yX2_dropPageFrame : MethodName := ⟨RX2, "dropPageFrame", "(I)V"⟩
abbrev cX2_pageOf : ByteArray := prog_1_method_44_code
def yX2_pageOf : MethodName := ⟨RX2, "pageOf", "(I)I"⟩
abbrev cX2_frameOfPage : ByteArray := prog_1_method_45_code
def yX2_frameOfPage : MethodName := ⟨RX2, "frameOfPage", "(II)I"⟩
abbrev cX2_tableIndex : ByteArray := prog_1_method_46_code
def yX2_tableIndex : MethodName := ⟨RX2, "tableIndex", "(II)I"⟩
abbrev cX2_pageIndex : ByteArray := prog_1_method_47_code
def yX2_pageIndex : MethodName := ⟨RX2, "pageIndex", "(II)I"⟩
abbrev cX2_wordIndex : ByteArray := prog_1_method_48_code
def yX2_wordIndex : MethodName := ⟨RX2, "wordIndex", "(II)I"⟩
abbrev cX2_wordAt : ByteArray := prog_1_method_49_code
def yX2_wordAt : MethodName := ⟨RX2, "wordAt", "(I)I"⟩
abbrev cX2_setWord : ByteArray := prog_1_method_50_code
def yX2_setWord : MethodName := ⟨RX2, "setWord", "(II)V"⟩
abbrev cX2_kindOf : ByteArray := prog_1_method_51_code
def yX2_kindOf : MethodName := ⟨RX2, "kindOf", "(I)I"⟩
abbrev cX2_isKernels : ByteArray := prog_1_method_52_code
def yX2_isKernels : MethodName := ⟨RX2, "isKernels", "(I)Z"⟩
def RX3 : String := "PageKernelModel"
def TX3 : u_T := fun k => match k with
  | 0 => ("PageKernelModel", "free", "[Z", true)
  | 1 => ("PageKernelModel", "kind", "[I", true)
  | 2 => ("PageKernelModel", "used", "[Z", true)
  | 3 => ("PageKernelModel", "word", "[I", true)
  | 4 => ("PageKernelModel", "kernel", "[I", true)
  | 5 => ("PageKernelModel", "state", "[I", true)
  | 6 => ("PageKernelModel", "breaks", "[I", true)
  | 7 => ("PageKernelModel", "parent", "[I", true)
  | 8 => ("PageKernelModel", "code", "[I", true)
  | 9 => ("PageKernelModel", "record", "[I", true)
  | 10 => ("PageKernelModel", "page", "[I", true)
  | 11 => ("PageKernelModel", "table", "[I", true)
  | 12 => ("PageKernelModel", "row", "[I", true)
  | 13 => ("PageKernelModel", "rows", "I", false)
  | 14 => ("PageKernelModel", "copies", "I", false)
  | 15 => ("PageKernelModel", "refused", "I", false)
  | 16 => ("PageKernelModel", "ticks", "I", false)
  | 17 => ("PageKernelModel", "oldFree", "[Z", true)
  | 18 => ("PageKernelModel", "oldKind", "[I", true)
  | _ => ("PageKernelModel", "oldUsed", "[Z", true)
def tyX3 : Nat → FieldType := fun k => match k with
  | 0 => .array .boolean
  | 1 => .array .int
  | 2 => .array .boolean
  | 3 => .array .int
  | 4 => .array .int
  | 5 => .array .int
  | 6 => .array .int
  | 7 => .array .int
  | 8 => .array .int
  | 9 => .array .int
  | 10 => .array .int
  | 11 => .array .int
  | 12 => .array .int
  | 13 => .int
  | 14 => .int
  | 15 => .int
  | 16 => .int
  | 17 => .array .boolean
  | 18 => .array .int
  | _ => .array .boolean
abbrev wsX30 : List Cond := u_ws RX3 TX3 20
theorem nmX3 : ∀ a, a < 20 → ∀ b, b < 20 → a ≠ b → (TX3 a).2.1 ≠ (TX3 b).2.1 := by decide +kernel
theorem tyX3_ok : ∀ k, k < 20 → parseFieldDescriptor (TX3 k).2.2.1 = some (tyX3 k) := by decide +kernel
abbrev cX3_init : ByteArray := prog_5_method_1_code
def yX3_init : MethodName := ⟨RX3, "<init>", "()V"⟩
abbrev cX3_takeBlock : ByteArray := prog_5_method_3_code
def yX3_takeBlock : MethodName := ⟨RX3, "takeBlock", "(I)I"⟩
abbrev cX3_giveBlock : ByteArray := prog_5_method_4_code
def yX3_giveBlock : MethodName := ⟨RX3, "giveBlock", "(II)V"⟩
abbrev cX3_takeFrame : ByteArray := prog_5_method_5_code
def yX3_takeFrame : MethodName := ⟨RX3, "takeFrame", "(I)I"⟩
abbrev cX3_layAside : ByteArray := prog_5_method_6_code
def yX3_layAside : MethodName := ⟨RX3, "layAside", "()V"⟩
abbrev cX3_fail : ByteArray := prog_5_method_7_code
def yX3_fail : MethodName := ⟨RX3, "fail", "()I"⟩
abbrev cX3_freePlace : ByteArray := prog_5_method_8_code
def yX3_freePlace : MethodName := ⟨RX3, "freePlace", "(I)I"⟩
abbrev cX3_takeSmall : ByteArray := prog_5_method_9_code
def yX3_takeSmall : MethodName := ⟨RX3, "takeSmall", "(I)I"⟩
abbrev cX3_smallIn : ByteArray := prog_5_method_10_code
def yX3_smallIn : MethodName := ⟨RX3, "smallIn", "(I)I"⟩
abbrev cX3_giveSmall : ByteArray := prog_5_method_11_code
def yX3_giveSmall : MethodName := ⟨RX3, "giveSmall", "(I)V"⟩
abbrev cX3_isLive : ByteArray := prog_5_method_12_code
def yX3_isLive : MethodName := ⟨RX3, "isLive", "(I)Z"⟩
abbrev cX3_unusedNumber : ByteArray := prog_5_method_13_code
def yX3_unusedNumber : MethodName := ⟨RX3, "unusedNumber", "()I"⟩
abbrev cX3_begin : ByteArray := prog_5_method_14_code
def yX3_begin : MethodName := ⟨RX3, "begin", "(III)V"⟩
abbrev cX3_spawn : ByteArray := prog_5_method_15_code
def yX3_spawn : MethodName := ⟨RX3, "spawn", "()I"⟩
abbrev cX3_fork : ByteArray := prog_5_method_16_code
def yX3_fork : MethodName := ⟨RX3, "fork", "(I)I"⟩
abbrev cX3_users : ByteArray := prog_5_method_17_code
def yX3_users : MethodName := ⟨RX3, "users", "(I)I"⟩
abbrev cX3_dropPage : ByteArray := prog_5_method_18_code
def yX3_dropPage : MethodName := ⟨RX3, "dropPage", "(I)V"⟩
abbrev cX3_grow : ByteArray := prog_5_method_19_code
def yX3_grow : MethodName := ⟨RX3, "grow", "(II)I"⟩
abbrev cX3_has : ByteArray := prog_5_method_20_code
def yX3_has : MethodName := ⟨RX3, "has", "(II)Z"⟩
abbrev cX3_load : ByteArray := prog_5_method_21_code
def yX3_load : MethodName := ⟨RX3, "load", "(II)I"⟩
abbrev cX3_store : ByteArray := prog_5_method_22_code
def yX3_store : MethodName := ⟨RX3, "store", "(III)I"⟩
abbrev cX3_placeInRow : ByteArray := prog_5_method_23_code
def yX3_placeInRow : MethodName := ⟨RX3, "placeInRow", "(I)I"⟩
abbrev cX3_vanish : ByteArray := prog_5_method_24_code
def yX3_vanish : MethodName := ⟨RX3, "vanish", "(I)V"⟩
abbrev cX3_exit : ByteArray := prog_5_method_25_code
def yX3_exit : MethodName := ⟨RX3, "exit", "(II)I"⟩
abbrev cX3_reap : ByteArray := prog_5_method_26_code
def yX3_reap : MethodName := ⟨RX3, "reap", "(I)I"⟩
abbrev cX3_tick : ByteArray := prog_5_method_27_code
def yX3_tick : MethodName := ⟨RX3, "tick", "()I"⟩
abbrev cX3_current : ByteArray := prog_5_method_28_code
def yX3_current : MethodName := ⟨RX3, "current", "()I"⟩
abbrev cX3_block : ByteArray := prog_5_method_29_code
def yX3_block : MethodName := ⟨RX3, "block", "(I)I"⟩
abbrev cX3_unblock : ByteArray := prog_5_method_30_code
def yX3_unblock : MethodName := ⟨RX3, "unblock", "(I)I"⟩
abbrev cX3_freeFrames : ByteArray := prog_5_method_31_code
def yX3_freeFrames : MethodName := ⟨RX3, "freeFrames", "()I"⟩
abbrev cX3_free : ByteArray := prog_5_method_32_code
def yX3_free : MethodName := ⟨RX3, "free", "(II)I"⟩
abbrev cX3_frame : ByteArray := prog_5_method_33_code
def yX3_frame : MethodName := ⟨RX3, "frame", "(II)I"⟩
abbrev cX3_about : ByteArray := prog_5_method_34_code
def yX3_about : MethodName := ⟨RX3, "about", "(II)I"⟩
abbrev cX3_process : ByteArray := prog_5_method_35_code
def yX3_process : MethodName := ⟨RX3, "process", "(II)I"⟩
abbrev cX3_told : ByteArray := prog_5_method_36_code
def yX3_told : MethodName := ⟨RX3, "told", "(I)I"⟩
def RJ6 : String := "java/lang/Integer"
def TJ6 : u_T := fun k => match k with
  | _ => ("", "", "", false)
def tyJ6 : Nat → FieldType := fun k => match k with
  | _ => .int
abbrev wsJ60 : List Cond := u_ws RJ6 TJ6 0
theorem nmJ6 : ∀ a, a < 0 → ∀ b, b < 0 → a ≠ b → (TJ6 a).2.1 ≠ (TJ6 b).2.1 := by decide +kernel
theorem tyJ6_ok : ∀ k, k < 0 → parseFieldDescriptor (TJ6 k).2.2.1 = some (tyJ6 k) := by decide +kernel
abbrev cJ6_bitCount_0f7a4 : ByteArray := prog_6_method_49_code
def yJ6_bitCount_0f7a4 : MethodName := ⟨RJ6, "bitCount", "(I)I"⟩
def RL : String := "PageKernelLaw"
abbrev cL_law : ByteArray := code
def yL_law : MethodName := ⟨RL, "law", "([I)Z"⟩
abbrev vwCl : List vw_C := [(RX0, TX0, 2), (RX1, TX1, 2), (RX2, TX2, 16), (RX3, TX3, 20)]
/-- the words of the tables that travel with every call -/
def wA : List Cond := lw_tbl.filter goodWord
theorem wA_in : ∀ w ∈ wA, w ∈ lw_tbl := fun _ h => (List.mem_filter.mp h).1
theorem wA_good : ∀ w ∈ wA, goodWord w = true := fun _ h => (List.mem_filter.mp h).2
theorem wA_mem {w : Cond} (i : Nat) (h : lw_tbl[i]? = some w) (hg : goodWord w = true) : w ∈ wA := List.mem_filter.mpr ⟨List.mem_of_getElem? h, hg⟩
theorem wA_all {ws : List Cond} (is : List Nat) (h : ws = is.filterMap (fun i => lw_tbl[i]?)) (hg : ws.all goodWord = true) : ∀ w ∈ ws, w ∈ wA := by
  intro w hw
  have hg := List.all_eq_true.mp hg w hw
  rw [h] at hw
  obtain ⟨i, -, hi⟩ := List.mem_filterMap.mp hw
  exact wA_mem i hi hg
theorem se_X2_makeProcess : Cond.selects RX2 yX2_makeProcess yX2_makeProcess ∈ wA := wA_mem 0 (by decide +kernel) rfl
theorem se_X2_leastUnused : Cond.selects RX2 yX2_leastUnused yX2_leastUnused ∈ wA := wA_mem 1 (by decide +kernel) rfl
theorem se_X1_leastWithRoom : Cond.selects RX1 yX1_leastWithRoom yX1_leastWithRoom ∈ wA := wA_mem 2 (by decide +kernel) rfl
theorem se_X0_leaveOut : Cond.selects RX0 yX0_leaveOut yX0_leaveOut ∈ wA := wA_mem 3 (by decide +kernel) rfl
theorem se_X0_putIn : Cond.selects RX0 yX0_putIn yX0_putIn ∈ wA := wA_mem 4 (by decide +kernel) rfl
theorem se_X2_refuse : Cond.selects RX2 yX2_refuse yX2_refuse ∈ wA := wA_mem 5 (by decide +kernel) rfl
theorem se_X2_isLive : Cond.selects RX2 yX2_isLive yX2_isLive ∈ wA := wA_mem 6 (by decide +kernel) rfl
theorem se_X2_takeTables : Cond.selects RX2 yX2_takeTables yX2_takeTables ∈ wA := wA_mem 7 (by decide +kernel) rfl
theorem se_X2_addTable : Cond.selects RX2 yX2_addTable yX2_addTable ∈ wA := wA_mem 8 (by decide +kernel) rfl
theorem se_X2_tableIndex : Cond.selects RX2 yX2_tableIndex yX2_tableIndex ∈ wA := wA_mem 9 (by decide +kernel) rfl
theorem se_X2_setWord : Cond.selects RX2 yX2_setWord yX2_setWord ∈ wA := wA_mem 10 (by decide +kernel) rfl
theorem se_X2_dropTable : Cond.selects RX2 yX2_dropTable yX2_dropTable ∈ wA := wA_mem 11 (by decide +kernel) rfl
theorem se_X2_wordAt : Cond.selects RX2 yX2_wordAt yX2_wordAt ∈ wA := wA_mem 12 (by decide +kernel) rfl
theorem se_X0_isFreeBlock : Cond.selects RX0 yX0_isFreeBlock yX0_isFreeBlock ∈ wA := wA_mem 13 (by decide +kernel) rfl
theorem se_X2_sharePages : Cond.selects RX2 yX2_sharePages yX2_sharePages ∈ wA := wA_mem 14 (by decide +kernel) rfl
theorem se_X2_frameOfPage : Cond.selects RX2 yX2_frameOfPage yX2_frameOfPage ∈ wA := wA_mem 15 (by decide +kernel) rfl
theorem se_X2_hasPage : Cond.selects RX2 yX2_hasPage yX2_hasPage ∈ wA := wA_mem 16 (by decide +kernel) rfl
theorem se_X2_pageIndex : Cond.selects RX2 yX2_pageIndex yX2_pageIndex ∈ wA := wA_mem 17 (by decide +kernel) rfl
theorem se_X2_joinRow : Cond.selects RX2 yX2_joinRow yX2_joinRow ∈ wA := wA_mem 18 (by decide +kernel) rfl
theorem se_X2_addPage : Cond.selects RX2 yX2_addPage yX2_addPage ∈ wA := wA_mem 19 (by decide +kernel) rfl
theorem se_X2_takePageFrame : Cond.selects RX2 yX2_takePageFrame yX2_takePageFrame ∈ wA := wA_mem 20 (by decide +kernel) rfl
theorem se_X2_shrinkTo : Cond.selects RX2 yX2_shrinkTo yX2_shrinkTo ∈ wA := wA_mem 21 (by decide +kernel) rfl
theorem se_X2_dropPageFrame : Cond.selects RX2 yX2_dropPageFrame yX2_dropPageFrame ∈ wA := wA_mem 22 (by decide +kernel) rfl
theorem se_X2_wordIndex : Cond.selects RX2 yX2_wordIndex yX2_wordIndex ∈ wA := wA_mem 23 (by decide +kernel) rfl
theorem se_X2_ownPage : Cond.selects RX2 yX2_ownPage yX2_ownPage ∈ wA := wA_mem 24 (by decide +kernel) rfl
theorem se_X2_leaveRow : Cond.selects RX2 yX2_leaveRow yX2_leaveRow ∈ wA := wA_mem 25 (by decide +kernel) rfl
theorem se_X2_leaveChildren : Cond.selects RX2 yX2_leaveChildren yX2_leaveChildren ∈ wA := wA_mem 26 (by decide +kernel) rfl
theorem se_X2_removeProcess : Cond.selects RX2 yX2_removeProcess yX2_removeProcess ∈ wA := wA_mem 27 (by decide +kernel) rfl
theorem se_X2_childrenOf : Cond.selects RX2 yX2_childrenOf yX2_childrenOf ∈ wA := wA_mem 28 (by decide +kernel) rfl
theorem se_X2_kindOf : Cond.selects RX2 yX2_kindOf yX2_kindOf ∈ wA := wA_mem 29 (by decide +kernel) rfl
theorem se_X2_isKernels : Cond.selects RX2 yX2_isKernels yX2_isKernels ∈ wA := wA_mem 30 (by decide +kernel) rfl
theorem se_X2_placeInRow : Cond.selects RX2 yX2_placeInRow yX2_placeInRow ∈ wA := wA_mem 31 (by decide +kernel) rfl
theorem se_X2_countInState : Cond.selects RX2 yX2_countInState yX2_countInState ∈ wA := wA_mem 32 (by decide +kernel) rfl
theorem se_X3_unusedNumber : Cond.selects RX3 yX3_unusedNumber yX3_unusedNumber ∈ wA := wA_mem 33 (by decide +kernel) rfl
theorem se_X3_layAside : Cond.selects RX3 yX3_layAside yX3_layAside ∈ wA := wA_mem 34 (by decide +kernel) rfl
theorem se_X3_takeSmall : Cond.selects RX3 yX3_takeSmall yX3_takeSmall ∈ wA := wA_mem 35 (by decide +kernel) rfl
theorem se_X3_freePlace : Cond.selects RX3 yX3_freePlace yX3_freePlace ∈ wA := wA_mem 36 (by decide +kernel) rfl
theorem se_X3_takeFrame : Cond.selects RX3 yX3_takeFrame yX3_takeFrame ∈ wA := wA_mem 37 (by decide +kernel) rfl
theorem se_X3_takeBlock : Cond.selects RX3 yX3_takeBlock yX3_takeBlock ∈ wA := wA_mem 38 (by decide +kernel) rfl
theorem se_X3_fail : Cond.selects RX3 yX3_fail yX3_fail ∈ wA := wA_mem 39 (by decide +kernel) rfl
theorem se_X3_begin : Cond.selects RX3 yX3_begin yX3_begin ∈ wA := wA_mem 40 (by decide +kernel) rfl
theorem se_X3_isLive : Cond.selects RX3 yX3_isLive yX3_isLive ∈ wA := wA_mem 41 (by decide +kernel) rfl
theorem se_X3_dropPage : Cond.selects RX3 yX3_dropPage yX3_dropPage ∈ wA := wA_mem 42 (by decide +kernel) rfl
theorem se_X3_users : Cond.selects RX3 yX3_users yX3_users ∈ wA := wA_mem 43 (by decide +kernel) rfl
theorem se_X3_giveBlock : Cond.selects RX3 yX3_giveBlock yX3_giveBlock ∈ wA := wA_mem 44 (by decide +kernel) rfl
theorem se_X3_giveSmall : Cond.selects RX3 yX3_giveSmall yX3_giveSmall ∈ wA := wA_mem 45 (by decide +kernel) rfl
theorem se_X3_smallIn : Cond.selects RX3 yX3_smallIn yX3_smallIn ∈ wA := wA_mem 46 (by decide +kernel) rfl
theorem se_X3_placeInRow : Cond.selects RX3 yX3_placeInRow yX3_placeInRow ∈ wA := wA_mem 47 (by decide +kernel) rfl
theorem se_X3_vanish : Cond.selects RX3 yX3_vanish yX3_vanish ∈ wA := wA_mem 48 (by decide +kernel) rfl
theorem ii_L : Cond.initialized RL ∈ wA := wA_mem 49 (by decide +kernel) rfl
theorem ii_X2 : Cond.initialized RX2 ∈ wA := wA_mem 50 (by decide +kernel) rfl
theorem ii_X0 : Cond.initialized RX0 ∈ wA := wA_mem 51 (by decide +kernel) rfl
theorem ii_X1 : Cond.initialized RX1 ∈ wA := wA_mem 52 (by decide +kernel) rfl
theorem ii_X3 : Cond.initialized RX3 ∈ wA := wA_mem 53 (by decide +kernel) rfl
theorem ii_J6 : Cond.initialized RJ6 ∈ wA := wA_mem 54 (by decide +kernel) rfl
theorem cl_L_7 : Cond.classLink RL 7 RX2 ∈ wA := wA_mem 55 (by decide +kernel) rfl
theorem ia_X2 : Cond.instantiable RX2 16 ∈ wA := wA_mem 56 (by decide +kernel) rfl
theorem ml_L_9 : Cond.methodLink RL 9 yX2_init ∈ wA := wA_mem 57 (by decide +kernel) rfl
theorem im_X2_init : Cond.instanceMethod yX2_init ∈ wA := wA_mem 58 (by decide +kernel) rfl
theorem co_X2_init : Cond.code yX2_init cX2_init 2 none ∈ wA := wA_mem 59 (by decide +kernel) rfl
theorem ml_X2_1 : Cond.methodLink RX2 1 objectInit ∈ wA := wA_mem 60 (by decide +kernel) rfl
theorem im_objectInit : Cond.instanceMethod objectInit ∈ wA := wA_mem 61 (by decide +kernel) rfl
theorem co_objectInit : Cond.code objectInit ⟨#[0xb1]⟩ 1 none ∈ wA := wA_mem 62 (by decide +kernel) rfl
theorem cl_X2_7 : Cond.classLink RX2 7 RX0 ∈ wA := wA_mem 63 (by decide +kernel) rfl
theorem ia_X0 : Cond.instantiable RX0 2 ∈ wA := wA_mem 64 (by decide +kernel) rfl
theorem ml_X2_9 : Cond.methodLink RX2 9 yX0_init ∈ wA := wA_mem 65 (by decide +kernel) rfl
theorem im_X0_init : Cond.instanceMethod yX0_init ∈ wA := wA_mem 66 (by decide +kernel) rfl
theorem co_X0_init : Cond.code yX0_init cX0_init 2 none ∈ wA := wA_mem 67 (by decide +kernel) rfl
theorem ml_X0_3 : Cond.methodLink RX0 3 objectInit ∈ wA := wA_mem 68 (by decide +kernel) rfl
theorem fl_X0_9 : Cond.fieldLink RX0 9 (TX0 0).1 (TX0 0).2.1 (TX0 0).2.2.1 ∈ wA := wA_mem 69 (by decide +kernel) rfl
theorem fl_X0_15 : Cond.fieldLink RX0 15 (TX0 1).1 (TX0 1).2.1 (TX0 1).2.2.1 ∈ wA := wA_mem 70 (by decide +kernel) rfl
theorem ac_int : Cond.arrayClass .int ∈ wA := wA_mem 76 (by decide +kernel) rfl
theorem cl_X2_16 : Cond.classLink RX2 16 RX1 ∈ wA := wA_mem 77 (by decide +kernel) rfl
theorem ia_X1 : Cond.instantiable RX1 2 ∈ wA := wA_mem 78 (by decide +kernel) rfl
theorem ml_X2_18 : Cond.methodLink RX2 18 yX1_init ∈ wA := wA_mem 79 (by decide +kernel) rfl
theorem im_X1_init : Cond.instanceMethod yX1_init ∈ wA := wA_mem 80 (by decide +kernel) rfl
theorem co_X1_init : Cond.code yX1_init cX1_init 2 none ∈ wA := wA_mem 81 (by decide +kernel) rfl
theorem ml_X1_3 : Cond.methodLink RX1 3 objectInit ∈ wA := wA_mem 82 (by decide +kernel) rfl
theorem fl_X1_9 : Cond.fieldLink RX1 9 (TX1 0).1 (TX1 0).2.1 (TX1 0).2.2.1 ∈ wA := wA_mem 83 (by decide +kernel) rfl
theorem fl_X1_15 : Cond.fieldLink RX1 15 (TX1 1).1 (TX1 1).2.1 (TX1 1).2.2.1 ∈ wA := wA_mem 84 (by decide +kernel) rfl
theorem fl_X2_10 : Cond.fieldLink RX2 10 (TX2 0).1 (TX2 0).2.1 (TX2 0).2.2.1 ∈ wA := wA_mem 90 (by decide +kernel) rfl
theorem fl_X2_21 : Cond.fieldLink RX2 21 (TX2 1).1 (TX2 1).2.1 (TX2 1).2.2.1 ∈ wA := wA_mem 91 (by decide +kernel) rfl
theorem fl_X2_25 : Cond.fieldLink RX2 25 (TX2 2).1 (TX2 2).2.1 (TX2 2).2.2.1 ∈ wA := wA_mem 92 (by decide +kernel) rfl
theorem fl_X2_28 : Cond.fieldLink RX2 28 (TX2 3).1 (TX2 3).2.1 (TX2 3).2.2.1 ∈ wA := wA_mem 93 (by decide +kernel) rfl
theorem fl_X2_32 : Cond.fieldLink RX2 32 (TX2 4).1 (TX2 4).2.1 (TX2 4).2.2.1 ∈ wA := wA_mem 94 (by decide +kernel) rfl
theorem fl_X2_35 : Cond.fieldLink RX2 35 (TX2 5).1 (TX2 5).2.1 (TX2 5).2.2.1 ∈ wA := wA_mem 95 (by decide +kernel) rfl
theorem fl_X2_38 : Cond.fieldLink RX2 38 (TX2 6).1 (TX2 6).2.1 (TX2 6).2.2.1 ∈ wA := wA_mem 96 (by decide +kernel) rfl
theorem fl_X2_41 : Cond.fieldLink RX2 41 (TX2 7).1 (TX2 7).2.1 (TX2 7).2.2.1 ∈ wA := wA_mem 97 (by decide +kernel) rfl
theorem fl_X2_44 : Cond.fieldLink RX2 44 (TX2 8).1 (TX2 8).2.1 (TX2 8).2.2.1 ∈ wA := wA_mem 98 (by decide +kernel) rfl
theorem fl_X2_47 : Cond.fieldLink RX2 47 (TX2 9).1 (TX2 9).2.1 (TX2 9).2.2.1 ∈ wA := wA_mem 99 (by decide +kernel) rfl
theorem fl_X2_50 : Cond.fieldLink RX2 50 (TX2 10).1 (TX2 10).2.1 (TX2 10).2.2.1 ∈ wA := wA_mem 100 (by decide +kernel) rfl
theorem fl_X2_53 : Cond.fieldLink RX2 53 (TX2 11).1 (TX2 11).2.1 (TX2 11).2.2.1 ∈ wA := wA_mem 101 (by decide +kernel) rfl
theorem fl_X2_108 : Cond.fieldLink RX2 108 (TX2 12).1 (TX2 12).2.1 (TX2 12).2.2.1 ∈ wA := wA_mem 102 (by decide +kernel) rfl
theorem fl_X2_154 : Cond.fieldLink RX2 154 (TX2 13).1 (TX2 13).2.1 (TX2 13).2.2.1 ∈ wA := wA_mem 103 (by decide +kernel) rfl
theorem fl_X2_157 : Cond.fieldLink RX2 157 (TX2 14).1 (TX2 14).2.1 (TX2 14).2.2.1 ∈ wA := wA_mem 104 (by decide +kernel) rfl
theorem fl_X2_115 : Cond.fieldLink RX2 115 (TX2 15).1 (TX2 15).2.1 (TX2 15).2.2.1 ∈ wA := wA_mem 105 (by decide +kernel) rfl
theorem ml_L_13 : Cond.methodLink RL 13 yX2_spawn ∈ wA := wA_mem 139 (by decide +kernel) rfl
theorem im_X2_spawn : Cond.instanceMethod yX2_spawn ∈ wA := wA_mem 140 (by decide +kernel) rfl
theorem se_X2_spawn : Cond.selects RX2 yX2_spawn yX2_spawn ∈ wA := wA_mem 141 (by decide +kernel) rfl
theorem co_X2_spawn : Cond.code yX2_spawn cX2_spawn 1 (some .int) ∈ wA := wA_mem 142 (by decide +kernel) rfl
theorem ml_X2_56 : Cond.methodLink RX2 56 yX2_makeProcess ∈ wA := wA_mem 143 (by decide +kernel) rfl
theorem im_X2_makeProcess : Cond.instanceMethod yX2_makeProcess ∈ wA := wA_mem 145 (by decide +kernel) rfl
theorem co_X2_makeProcess : Cond.code yX2_makeProcess cX2_makeProcess 4 (some .int) ∈ wA := wA_mem 146 (by decide +kernel) rfl
theorem ml_X2_160 : Cond.methodLink RX2 160 yX2_leastUnused ∈ wA := wA_mem 147 (by decide +kernel) rfl
theorem im_X2_leastUnused : Cond.instanceMethod yX2_leastUnused ∈ wA := wA_mem 149 (by decide +kernel) rfl
theorem co_X2_leastUnused : Cond.code yX2_leastUnused cX2_leastUnused 2 (some .int) ∈ wA := wA_mem 150 (by decide +kernel) rfl
theorem ml_X2_145 : Cond.methodLink RX2 145 yX2_isNumber ∈ wA := wA_mem 151 (by decide +kernel) rfl
theorem sm_X2_isNumber : Cond.static yX2_isNumber ∈ wA := wA_mem 152 (by decide +kernel) rfl
theorem co_X2_isNumber : Cond.code yX2_isNumber cX2_isNumber 1 (some .boolean) ∈ wA := wA_mem 153 (by decide +kernel) rfl
theorem ml_X2_163 : Cond.methodLink RX2 163 yX1_takePlace ∈ wA := wA_mem 154 (by decide +kernel) rfl
theorem im_X1_takePlace : Cond.instanceMethod yX1_takePlace ∈ wA := wA_mem 155 (by decide +kernel) rfl
theorem se_X1_takePlace : Cond.selects RX1 yX1_takePlace yX1_takePlace ∈ wA := wA_mem 156 (by decide +kernel) rfl
theorem co_X1_takePlace : Cond.code yX1_takePlace cX1_takePlace 3 (some .int) ∈ wA := wA_mem 157 (by decide +kernel) rfl
theorem ml_X1_29 : Cond.methodLink RX1 29 yX1_leastWithRoom ∈ wA := wA_mem 158 (by decide +kernel) rfl
theorem im_X1_leastWithRoom : Cond.instanceMethod yX1_leastWithRoom ∈ wA := wA_mem 160 (by decide +kernel) rfl
theorem co_X1_leastWithRoom : Cond.code yX1_leastWithRoom cX1_leastWithRoom 2 (some .int) ∈ wA := wA_mem 161 (by decide +kernel) rfl
theorem ml_X1_33 : Cond.methodLink RX1 33 yX0_takeBlock ∈ wA := wA_mem 162 (by decide +kernel) rfl
theorem im_X0_takeBlock : Cond.instanceMethod yX0_takeBlock ∈ wA := wA_mem 163 (by decide +kernel) rfl
theorem se_X0_takeBlock : Cond.selects RX0 yX0_takeBlock yX0_takeBlock ∈ wA := wA_mem 164 (by decide +kernel) rfl
theorem co_X0_takeBlock : Cond.code yX0_takeBlock cX0_takeBlock 5 (some .int) ∈ wA := wA_mem 165 (by decide +kernel) rfl
theorem ml_X0_26 : Cond.methodLink RX0 26 yX0_leastOf ∈ wA := wA_mem 166 (by decide +kernel) rfl
theorem im_X0_leastOf : Cond.instanceMethod yX0_leastOf ∈ wA := wA_mem 167 (by decide +kernel) rfl
theorem se_X0_leastOf : Cond.selects RX0 yX0_leastOf yX0_leastOf ∈ wA := wA_mem 168 (by decide +kernel) rfl
theorem co_X0_leastOf : Cond.code yX0_leastOf cX0_leastOf 3 (some .int) ∈ wA := wA_mem 169 (by decide +kernel) rfl
theorem ml_X0_22 : Cond.methodLink RX0 22 yX0_countOf ∈ wA := wA_mem 170 (by decide +kernel) rfl
theorem im_X0_countOf : Cond.instanceMethod yX0_countOf ∈ wA := wA_mem 171 (by decide +kernel) rfl
theorem se_X0_countOf : Cond.selects RX0 yX0_countOf yX0_countOf ∈ wA := wA_mem 172 (by decide +kernel) rfl
theorem co_X0_countOf : Cond.code yX0_countOf cX0_countOf 2 (some .int) ∈ wA := wA_mem 173 (by decide +kernel) rfl
theorem sm_X2_isOrder : Cond.static yX2_isOrder ∈ wA := wA_mem 175 (by decide +kernel) rfl
theorem co_X2_isOrder : Cond.code yX2_isOrder cX2_isOrder 1 (some .boolean) ∈ wA := wA_mem 176 (by decide +kernel) rfl
theorem ml_X0_29 : Cond.methodLink RX0 29 yX0_leaveOut ∈ wA := wA_mem 177 (by decide +kernel) rfl
theorem im_X0_leaveOut : Cond.instanceMethod yX0_leaveOut ∈ wA := wA_mem 179 (by decide +kernel) rfl
theorem co_X0_leaveOut : Cond.code yX0_leaveOut cX0_leaveOut 3 none ∈ wA := wA_mem 180 (by decide +kernel) rfl
theorem sm_X2_isFrame : Cond.static yX2_isFrame ∈ wA := wA_mem 182 (by decide +kernel) rfl
theorem co_X2_isFrame : Cond.code yX2_isFrame cX2_isFrame 1 (some .boolean) ∈ wA := wA_mem 183 (by decide +kernel) rfl
theorem ml_X0_33 : Cond.methodLink RX0 33 yX0_putIn ∈ wA := wA_mem 184 (by decide +kernel) rfl
theorem im_X0_putIn : Cond.instanceMethod yX0_putIn ∈ wA := wA_mem 186 (by decide +kernel) rfl
theorem co_X0_putIn : Cond.code yX0_putIn cX0_putIn 3 none ∈ wA := wA_mem 187 (by decide +kernel) rfl
theorem ml_X2_72 : Cond.methodLink RX2 72 yX2_refuse ∈ wA := wA_mem 189 (by decide +kernel) rfl
theorem im_X2_refuse : Cond.instanceMethod yX2_refuse ∈ wA := wA_mem 191 (by decide +kernel) rfl
theorem co_X2_refuse : Cond.code yX2_refuse cX2_refuse 1 (some .int) ∈ wA := wA_mem 192 (by decide +kernel) rfl
theorem ml_X2_60 : Cond.methodLink RX2 60 yX2_isLive ∈ wA := wA_mem 193 (by decide +kernel) rfl
theorem im_X2_isLive : Cond.instanceMethod yX2_isLive ∈ wA := wA_mem 195 (by decide +kernel) rfl
theorem co_X2_isLive : Cond.code yX2_isLive cX2_isLive 2 (some .boolean) ∈ wA := wA_mem 196 (by decide +kernel) rfl
theorem ml_X2_166 : Cond.methodLink RX2 166 yX2_takeTables ∈ wA := wA_mem 197 (by decide +kernel) rfl
theorem im_X2_takeTables : Cond.instanceMethod yX2_takeTables ∈ wA := wA_mem 199 (by decide +kernel) rfl
theorem co_X2_takeTables : Cond.code yX2_takeTables cX2_takeTables 5 (some .boolean) ∈ wA := wA_mem 200 (by decide +kernel) rfl
theorem ml_X2_175 : Cond.methodLink RX2 175 yX2_addTable ∈ wA := wA_mem 201 (by decide +kernel) rfl
theorem im_X2_addTable : Cond.instanceMethod yX2_addTable ∈ wA := wA_mem 203 (by decide +kernel) rfl
theorem co_X2_addTable : Cond.code yX2_addTable cX2_addTable 4 (some .boolean) ∈ wA := wA_mem 204 (by decide +kernel) rfl
theorem ml_X2_190 : Cond.methodLink RX2 190 yX2_tableIndex ∈ wA := wA_mem 205 (by decide +kernel) rfl
theorem im_X2_tableIndex : Cond.instanceMethod yX2_tableIndex ∈ wA := wA_mem 207 (by decide +kernel) rfl
theorem co_X2_tableIndex : Cond.code yX2_tableIndex cX2_tableIndex 3 (some .int) ∈ wA := wA_mem 208 (by decide +kernel) rfl
theorem ml_X2_92 : Cond.methodLink RX2 92 yX2_setWord ∈ wA := wA_mem 209 (by decide +kernel) rfl
theorem im_X2_setWord : Cond.instanceMethod yX2_setWord ∈ wA := wA_mem 211 (by decide +kernel) rfl
theorem co_X2_setWord : Cond.code yX2_setWord cX2_setWord 3 none ∈ wA := wA_mem 212 (by decide +kernel) rfl
theorem ml_X2_178 : Cond.methodLink RX2 178 yX2_dropTable ∈ wA := wA_mem 213 (by decide +kernel) rfl
theorem im_X2_dropTable : Cond.instanceMethod yX2_dropTable ∈ wA := wA_mem 215 (by decide +kernel) rfl
theorem co_X2_dropTable : Cond.code yX2_dropTable cX2_dropTable 3 none ∈ wA := wA_mem 216 (by decide +kernel) rfl
theorem ml_X2_86 : Cond.methodLink RX2 86 yX2_wordAt ∈ wA := wA_mem 217 (by decide +kernel) rfl
theorem im_X2_wordAt : Cond.instanceMethod yX2_wordAt ∈ wA := wA_mem 219 (by decide +kernel) rfl
theorem co_X2_wordAt : Cond.code yX2_wordAt cX2_wordAt 2 (some .int) ∈ wA := wA_mem 220 (by decide +kernel) rfl
theorem ml_X2_169 : Cond.methodLink RX2 169 yX1_givePlace ∈ wA := wA_mem 221 (by decide +kernel) rfl
theorem im_X1_givePlace : Cond.instanceMethod yX1_givePlace ∈ wA := wA_mem 222 (by decide +kernel) rfl
theorem se_X1_givePlace : Cond.selects RX1 yX1_givePlace yX1_givePlace ∈ wA := wA_mem 223 (by decide +kernel) rfl
theorem co_X1_givePlace : Cond.code yX1_givePlace cX1_givePlace 3 none ∈ wA := wA_mem 224 (by decide +kernel) rfl
theorem ml_X1_38 : Cond.methodLink RX1 38 yX0_giveBlock ∈ wA := wA_mem 225 (by decide +kernel) rfl
theorem im_X0_giveBlock : Cond.instanceMethod yX0_giveBlock ∈ wA := wA_mem 226 (by decide +kernel) rfl
theorem se_X0_giveBlock : Cond.selects RX0 yX0_giveBlock yX0_giveBlock ∈ wA := wA_mem 227 (by decide +kernel) rfl
theorem co_X0_giveBlock : Cond.code yX0_giveBlock cX0_giveBlock 5 none ∈ wA := wA_mem 228 (by decide +kernel) rfl
theorem ml_X0_36 : Cond.methodLink RX0 36 yX0_isFreeBlock ∈ wA := wA_mem 229 (by decide +kernel) rfl
theorem im_X0_isFreeBlock : Cond.instanceMethod yX0_isFreeBlock ∈ wA := wA_mem 231 (by decide +kernel) rfl
theorem co_X0_isFreeBlock : Cond.code yX0_isFreeBlock cX0_isFreeBlock 3 (some .boolean) ∈ wA := wA_mem 232 (by decide +kernel) rfl
theorem ml_X2_172 : Cond.methodLink RX2 172 yX2_sharePages ∈ wA := wA_mem 233 (by decide +kernel) rfl
theorem im_X2_sharePages : Cond.instanceMethod yX2_sharePages ∈ wA := wA_mem 235 (by decide +kernel) rfl
theorem co_X2_sharePages : Cond.code yX2_sharePages cX2_sharePages 5 none ∈ wA := wA_mem 236 (by decide +kernel) rfl
theorem ml_X2_136 : Cond.methodLink RX2 136 yX2_frameOfPage ∈ wA := wA_mem 237 (by decide +kernel) rfl
theorem im_X2_frameOfPage : Cond.instanceMethod yX2_frameOfPage ∈ wA := wA_mem 239 (by decide +kernel) rfl
theorem co_X2_frameOfPage : Cond.code yX2_frameOfPage cX2_frameOfPage 3 (some .int) ∈ wA := wA_mem 240 (by decide +kernel) rfl
theorem ml_X2_79 : Cond.methodLink RX2 79 yX2_hasPage ∈ wA := wA_mem 241 (by decide +kernel) rfl
theorem im_X2_hasPage : Cond.instanceMethod yX2_hasPage ∈ wA := wA_mem 243 (by decide +kernel) rfl
theorem co_X2_hasPage : Cond.code yX2_hasPage cX2_hasPage 3 (some .boolean) ∈ wA := wA_mem 244 (by decide +kernel) rfl
theorem ml_X2_181 : Cond.methodLink RX2 181 yX2_pageIndex ∈ wA := wA_mem 245 (by decide +kernel) rfl
theorem im_X2_pageIndex : Cond.instanceMethod yX2_pageIndex ∈ wA := wA_mem 247 (by decide +kernel) rfl
theorem co_X2_pageIndex : Cond.code yX2_pageIndex cX2_pageIndex 3 (some .int) ∈ wA := wA_mem 248 (by decide +kernel) rfl
theorem ml_X2_124 : Cond.methodLink RX2 124 yX2_isFrame ∈ wA := wA_mem 249 (by decide +kernel) rfl
theorem ml_X2_112 : Cond.methodLink RX2 112 yX2_joinRow ∈ wA := wA_mem 250 (by decide +kernel) rfl
theorem im_X2_joinRow : Cond.instanceMethod yX2_joinRow ∈ wA := wA_mem 252 (by decide +kernel) rfl
theorem co_X2_joinRow : Cond.code yX2_joinRow cX2_joinRow 2 none ∈ wA := wA_mem 253 (by decide +kernel) rfl
theorem ml_L_18 : Cond.methodLink RL 18 yX2_fork ∈ wA := wA_mem 254 (by decide +kernel) rfl
theorem im_X2_fork : Cond.instanceMethod yX2_fork ∈ wA := wA_mem 255 (by decide +kernel) rfl
theorem se_X2_fork : Cond.selects RX2 yX2_fork yX2_fork ∈ wA := wA_mem 256 (by decide +kernel) rfl
theorem co_X2_fork : Cond.code yX2_fork cX2_fork 2 (some .int) ∈ wA := wA_mem 257 (by decide +kernel) rfl
theorem ml_L_23 : Cond.methodLink RL 23 yX2_grow ∈ wA := wA_mem 258 (by decide +kernel) rfl
theorem im_X2_grow : Cond.instanceMethod yX2_grow ∈ wA := wA_mem 259 (by decide +kernel) rfl
theorem se_X2_grow : Cond.selects RX2 yX2_grow yX2_grow ∈ wA := wA_mem 260 (by decide +kernel) rfl
theorem co_X2_grow : Cond.code yX2_grow cX2_grow 6 (some .int) ∈ wA := wA_mem 261 (by decide +kernel) rfl
theorem ml_X2_64 : Cond.methodLink RX2 64 yX2_addPage ∈ wA := wA_mem 262 (by decide +kernel) rfl
theorem im_X2_addPage : Cond.instanceMethod yX2_addPage ∈ wA := wA_mem 264 (by decide +kernel) rfl
theorem co_X2_addPage : Cond.code yX2_addPage cX2_addPage 6 (some .boolean) ∈ wA := wA_mem 265 (by decide +kernel) rfl
theorem ml_X2_184 : Cond.methodLink RX2 184 yX2_takePageFrame ∈ wA := wA_mem 266 (by decide +kernel) rfl
theorem im_X2_takePageFrame : Cond.instanceMethod yX2_takePageFrame ∈ wA := wA_mem 268 (by decide +kernel) rfl
theorem co_X2_takePageFrame : Cond.code yX2_takePageFrame cX2_takePageFrame 2 (some .int) ∈ wA := wA_mem 269 (by decide +kernel) rfl
theorem ml_X2_121 : Cond.methodLink RX2 121 yX0_takeBlock ∈ wA := wA_mem 270 (by decide +kernel) rfl
theorem ml_X2_68 : Cond.methodLink RX2 68 yX2_shrinkTo ∈ wA := wA_mem 271 (by decide +kernel) rfl
theorem im_X2_shrinkTo : Cond.instanceMethod yX2_shrinkTo ∈ wA := wA_mem 273 (by decide +kernel) rfl
theorem co_X2_shrinkTo : Cond.code yX2_shrinkTo cX2_shrinkTo 4 none ∈ wA := wA_mem 274 (by decide +kernel) rfl
theorem ml_X2_187 : Cond.methodLink RX2 187 yX2_dropPageFrame ∈ wA := wA_mem 275 (by decide +kernel) rfl
theorem im_X2_dropPageFrame : Cond.instanceMethod yX2_dropPageFrame ∈ wA := wA_mem 277 (by decide +kernel) rfl
theorem co_X2_dropPageFrame : Cond.code yX2_dropPageFrame cX2_dropPageFrame 2 none ∈ wA := wA_mem 278 (by decide +kernel) rfl
theorem ml_X2_127 : Cond.methodLink RX2 127 yX0_giveBlock ∈ wA := wA_mem 279 (by decide +kernel) rfl
theorem ml_L_28 : Cond.methodLink RL 28 yX2_load ∈ wA := wA_mem 280 (by decide +kernel) rfl
theorem im_X2_load : Cond.instanceMethod yX2_load ∈ wA := wA_mem 281 (by decide +kernel) rfl
theorem se_X2_load : Cond.selects RX2 yX2_load yX2_load ∈ wA := wA_mem 282 (by decide +kernel) rfl
theorem co_X2_load : Cond.code yX2_load cX2_load 3 (some .int) ∈ wA := wA_mem 283 (by decide +kernel) rfl
theorem ml_X2_76 : Cond.methodLink RX2 76 yX2_pageOf ∈ wA := wA_mem 284 (by decide +kernel) rfl
theorem sm_X2_pageOf : Cond.static yX2_pageOf ∈ wA := wA_mem 285 (by decide +kernel) rfl
theorem co_X2_pageOf : Cond.code yX2_pageOf cX2_pageOf 1 (some .int) ∈ wA := wA_mem 286 (by decide +kernel) rfl
theorem ml_X2_82 : Cond.methodLink RX2 82 yX2_wordIndex ∈ wA := wA_mem 287 (by decide +kernel) rfl
theorem im_X2_wordIndex : Cond.instanceMethod yX2_wordIndex ∈ wA := wA_mem 289 (by decide +kernel) rfl
theorem co_X2_wordIndex : Cond.code yX2_wordIndex cX2_wordIndex 3 (some .int) ∈ wA := wA_mem 290 (by decide +kernel) rfl
theorem ml_L_32 : Cond.methodLink RL 32 yX2_has ∈ wA := wA_mem 291 (by decide +kernel) rfl
theorem im_X2_has : Cond.instanceMethod yX2_has ∈ wA := wA_mem 292 (by decide +kernel) rfl
theorem se_X2_has : Cond.selects RX2 yX2_has yX2_has ∈ wA := wA_mem 293 (by decide +kernel) rfl
theorem co_X2_has : Cond.code yX2_has cX2_has 3 (some .boolean) ∈ wA := wA_mem 294 (by decide +kernel) rfl
theorem ml_L_37 : Cond.methodLink RL 37 yX2_store ∈ wA := wA_mem 295 (by decide +kernel) rfl
theorem im_X2_store : Cond.instanceMethod yX2_store ∈ wA := wA_mem 296 (by decide +kernel) rfl
theorem se_X2_store : Cond.selects RX2 yX2_store yX2_store ∈ wA := wA_mem 297 (by decide +kernel) rfl
theorem co_X2_store : Cond.code yX2_store cX2_store 4 (some .int) ∈ wA := wA_mem 298 (by decide +kernel) rfl
theorem ml_X2_89 : Cond.methodLink RX2 89 yX2_ownPage ∈ wA := wA_mem 299 (by decide +kernel) rfl
theorem im_X2_ownPage : Cond.instanceMethod yX2_ownPage ∈ wA := wA_mem 301 (by decide +kernel) rfl
theorem co_X2_ownPage : Cond.code yX2_ownPage cX2_ownPage 6 (some .boolean) ∈ wA := wA_mem 302 (by decide +kernel) rfl
theorem ml_L_42 : Cond.methodLink RL 42 yX2_exit ∈ wA := wA_mem 303 (by decide +kernel) rfl
theorem im_X2_exit : Cond.instanceMethod yX2_exit ∈ wA := wA_mem 304 (by decide +kernel) rfl
theorem se_X2_exit : Cond.selects RX2 yX2_exit yX2_exit ∈ wA := wA_mem 305 (by decide +kernel) rfl
theorem co_X2_exit : Cond.code yX2_exit cX2_exit 3 (some .int) ∈ wA := wA_mem 306 (by decide +kernel) rfl
theorem ml_X2_95 : Cond.methodLink RX2 95 yX2_leaveRow ∈ wA := wA_mem 307 (by decide +kernel) rfl
theorem im_X2_leaveRow : Cond.instanceMethod yX2_leaveRow ∈ wA := wA_mem 309 (by decide +kernel) rfl
theorem co_X2_leaveRow : Cond.code yX2_leaveRow cX2_leaveRow 4 none ∈ wA := wA_mem 310 (by decide +kernel) rfl
theorem ml_X2_99 : Cond.methodLink RX2 99 yX2_leaveChildren ∈ wA := wA_mem 311 (by decide +kernel) rfl
theorem im_X2_leaveChildren : Cond.instanceMethod yX2_leaveChildren ∈ wA := wA_mem 313 (by decide +kernel) rfl
theorem co_X2_leaveChildren : Cond.code yX2_leaveChildren cX2_leaveChildren 3 none ∈ wA := wA_mem 314 (by decide +kernel) rfl
theorem ml_X2_102 : Cond.methodLink RX2 102 yX2_removeProcess ∈ wA := wA_mem 315 (by decide +kernel) rfl
theorem im_X2_removeProcess : Cond.instanceMethod yX2_removeProcess ∈ wA := wA_mem 317 (by decide +kernel) rfl
theorem co_X2_removeProcess : Cond.code yX2_removeProcess cX2_removeProcess 2 none ∈ wA := wA_mem 318 (by decide +kernel) rfl
theorem ml_L_46 : Cond.methodLink RL 46 yX2_reap ∈ wA := wA_mem 319 (by decide +kernel) rfl
theorem im_X2_reap : Cond.instanceMethod yX2_reap ∈ wA := wA_mem 320 (by decide +kernel) rfl
theorem se_X2_reap : Cond.selects RX2 yX2_reap yX2_reap ∈ wA := wA_mem 321 (by decide +kernel) rfl
theorem co_X2_reap : Cond.code yX2_reap cX2_reap 3 (some .int) ∈ wA := wA_mem 322 (by decide +kernel) rfl
theorem ml_X2_105 : Cond.methodLink RX2 105 yX2_childrenOf ∈ wA := wA_mem 323 (by decide +kernel) rfl
theorem im_X2_childrenOf : Cond.instanceMethod yX2_childrenOf ∈ wA := wA_mem 325 (by decide +kernel) rfl
theorem co_X2_childrenOf : Cond.code yX2_childrenOf cX2_childrenOf 4 (some .int) ∈ wA := wA_mem 326 (by decide +kernel) rfl
theorem ml_L_50 : Cond.methodLink RL 50 yX2_tick ∈ wA := wA_mem 327 (by decide +kernel) rfl
theorem im_X2_tick : Cond.instanceMethod yX2_tick ∈ wA := wA_mem 328 (by decide +kernel) rfl
theorem se_X2_tick : Cond.selects RX2 yX2_tick yX2_tick ∈ wA := wA_mem 329 (by decide +kernel) rfl
theorem co_X2_tick : Cond.code yX2_tick cX2_tick 2 (some .int) ∈ wA := wA_mem 330 (by decide +kernel) rfl
theorem ml_L_54 : Cond.methodLink RL 54 yX2_current ∈ wA := wA_mem 331 (by decide +kernel) rfl
theorem im_X2_current : Cond.instanceMethod yX2_current ∈ wA := wA_mem 332 (by decide +kernel) rfl
theorem se_X2_current : Cond.selects RX2 yX2_current yX2_current ∈ wA := wA_mem 333 (by decide +kernel) rfl
theorem co_X2_current : Cond.code yX2_current cX2_current 1 (some .int) ∈ wA := wA_mem 334 (by decide +kernel) rfl
theorem ml_L_58 : Cond.methodLink RL 58 yX2_block ∈ wA := wA_mem 335 (by decide +kernel) rfl
theorem im_X2_block : Cond.instanceMethod yX2_block ∈ wA := wA_mem 336 (by decide +kernel) rfl
theorem se_X2_block : Cond.selects RX2 yX2_block yX2_block ∈ wA := wA_mem 337 (by decide +kernel) rfl
theorem co_X2_block : Cond.code yX2_block cX2_block 3 (some .int) ∈ wA := wA_mem 338 (by decide +kernel) rfl
theorem ml_X2_118 : Cond.methodLink RX2 118 yX2_isOrder ∈ wA := wA_mem 339 (by decide +kernel) rfl
theorem ml_L_62 : Cond.methodLink RL 62 yX2_unblock ∈ wA := wA_mem 340 (by decide +kernel) rfl
theorem im_X2_unblock : Cond.instanceMethod yX2_unblock ∈ wA := wA_mem 341 (by decide +kernel) rfl
theorem se_X2_unblock : Cond.selects RX2 yX2_unblock yX2_unblock ∈ wA := wA_mem 342 (by decide +kernel) rfl
theorem co_X2_unblock : Cond.code yX2_unblock cX2_unblock 3 (some .int) ∈ wA := wA_mem 343 (by decide +kernel) rfl
theorem ml_L_66 : Cond.methodLink RL 66 yX2_freeFrames ∈ wA := wA_mem 344 (by decide +kernel) rfl
theorem im_X2_freeFrames : Cond.instanceMethod yX2_freeFrames ∈ wA := wA_mem 345 (by decide +kernel) rfl
theorem se_X2_freeFrames : Cond.selects RX2 yX2_freeFrames yX2_freeFrames ∈ wA := wA_mem 346 (by decide +kernel) rfl
theorem co_X2_freeFrames : Cond.code yX2_freeFrames cX2_freeFrames 3 (some .int) ∈ wA := wA_mem 347 (by decide +kernel) rfl
theorem ml_X2_130 : Cond.methodLink RX2 130 yX0_countOf ∈ wA := wA_mem 348 (by decide +kernel) rfl
theorem ml_L_70 : Cond.methodLink RL 70 yX2_free ∈ wA := wA_mem 349 (by decide +kernel) rfl
theorem im_X2_free : Cond.instanceMethod yX2_free ∈ wA := wA_mem 350 (by decide +kernel) rfl
theorem se_X2_free : Cond.selects RX2 yX2_free yX2_free ∈ wA := wA_mem 351 (by decide +kernel) rfl
theorem co_X2_free : Cond.code yX2_free cX2_free 3 (some .int) ∈ wA := wA_mem 352 (by decide +kernel) rfl
theorem ml_X2_133 : Cond.methodLink RX2 133 yX0_leastOf ∈ wA := wA_mem 353 (by decide +kernel) rfl
theorem ml_L_74 : Cond.methodLink RL 74 yX2_frame ∈ wA := wA_mem 354 (by decide +kernel) rfl
theorem im_X2_frame : Cond.instanceMethod yX2_frame ∈ wA := wA_mem 355 (by decide +kernel) rfl
theorem se_X2_frame : Cond.selects RX2 yX2_frame yX2_frame ∈ wA := wA_mem 356 (by decide +kernel) rfl
theorem co_X2_frame : Cond.code yX2_frame cX2_frame 3 (some .int) ∈ wA := wA_mem 357 (by decide +kernel) rfl
theorem ml_L_78 : Cond.methodLink RL 78 yX2_about ∈ wA := wA_mem 358 (by decide +kernel) rfl
theorem im_X2_about : Cond.instanceMethod yX2_about ∈ wA := wA_mem 359 (by decide +kernel) rfl
theorem se_X2_about : Cond.selects RX2 yX2_about yX2_about ∈ wA := wA_mem 360 (by decide +kernel) rfl
theorem co_X2_about : Cond.code yX2_about cX2_about 3 (some .int) ∈ wA := wA_mem 361 (by decide +kernel) rfl
theorem ml_X2_139 : Cond.methodLink RX2 139 yX2_kindOf ∈ wA := wA_mem 362 (by decide +kernel) rfl
theorem im_X2_kindOf : Cond.instanceMethod yX2_kindOf ∈ wA := wA_mem 364 (by decide +kernel) rfl
theorem co_X2_kindOf : Cond.code yX2_kindOf cX2_kindOf 2 (some .int) ∈ wA := wA_mem 365 (by decide +kernel) rfl
theorem ml_X2_142 : Cond.methodLink RX2 142 yX1_countIn ∈ wA := wA_mem 366 (by decide +kernel) rfl
theorem im_X1_countIn : Cond.instanceMethod yX1_countIn ∈ wA := wA_mem 367 (by decide +kernel) rfl
theorem se_X1_countIn : Cond.selects RX1 yX1_countIn yX1_countIn ∈ wA := wA_mem 368 (by decide +kernel) rfl
theorem co_X1_countIn : Cond.code yX1_countIn cX1_countIn 2 (some .int) ∈ wA := wA_mem 369 (by decide +kernel) rfl
theorem ml_X1_23 : Cond.methodLink RX1 23 yJ6_bitCount_0f7a4 ∈ wA := wA_mem 370 (by decide +kernel) rfl
theorem sm_J6_bitCount_0f7a4 : Cond.static yJ6_bitCount_0f7a4 ∈ wA := wA_mem 371 (by decide +kernel) rfl
theorem co_J6_bitCount_0f7a4 : Cond.code yJ6_bitCount_0f7a4 cJ6_bitCount_0f7a4 1 (some .int) ∈ wA := wA_mem 372 (by decide +kernel) rfl
theorem kc_265 : Cond.constant RJ6 265 (1431655765) ∈ wA := wA_mem 373 (by decide +kernel) rfl
theorem kc_266 : Cond.constant RJ6 266 (858993459) ∈ wA := wA_mem 374 (by decide +kernel) rfl
theorem kc_267 : Cond.constant RJ6 267 (252645135) ∈ wA := wA_mem 375 (by decide +kernel) rfl
theorem ml_X2_193 : Cond.methodLink RX2 193 yX2_isKernels ∈ wA := wA_mem 376 (by decide +kernel) rfl
theorem im_X2_isKernels : Cond.instanceMethod yX2_isKernels ∈ wA := wA_mem 378 (by decide +kernel) rfl
theorem co_X2_isKernels : Cond.code yX2_isKernels cX2_isKernels 4 (some .boolean) ∈ wA := wA_mem 379 (by decide +kernel) rfl
theorem ml_L_82 : Cond.methodLink RL 82 yX2_process ∈ wA := wA_mem 380 (by decide +kernel) rfl
theorem im_X2_process : Cond.instanceMethod yX2_process ∈ wA := wA_mem 381 (by decide +kernel) rfl
theorem se_X2_process : Cond.selects RX2 yX2_process yX2_process ∈ wA := wA_mem 382 (by decide +kernel) rfl
theorem co_X2_process : Cond.code yX2_process cX2_process 3 (some .int) ∈ wA := wA_mem 383 (by decide +kernel) rfl
theorem ml_X2_148 : Cond.methodLink RX2 148 yX2_placeInRow ∈ wA := wA_mem 384 (by decide +kernel) rfl
theorem im_X2_placeInRow : Cond.instanceMethod yX2_placeInRow ∈ wA := wA_mem 386 (by decide +kernel) rfl
theorem co_X2_placeInRow : Cond.code yX2_placeInRow cX2_placeInRow 3 (some .int) ∈ wA := wA_mem 387 (by decide +kernel) rfl
theorem ml_L_86 : Cond.methodLink RL 86 yX2_told ∈ wA := wA_mem 388 (by decide +kernel) rfl
theorem im_X2_told : Cond.instanceMethod yX2_told ∈ wA := wA_mem 389 (by decide +kernel) rfl
theorem se_X2_told : Cond.selects RX2 yX2_told yX2_told ∈ wA := wA_mem 390 (by decide +kernel) rfl
theorem co_X2_told : Cond.code yX2_told cX2_told 2 (some .int) ∈ wA := wA_mem 391 (by decide +kernel) rfl
theorem ml_X2_151 : Cond.methodLink RX2 151 yX2_countInState ∈ wA := wA_mem 392 (by decide +kernel) rfl
theorem im_X2_countInState : Cond.instanceMethod yX2_countInState ∈ wA := wA_mem 394 (by decide +kernel) rfl
theorem co_X2_countInState : Cond.code yX2_countInState cX2_countInState 4 (some .int) ∈ wA := wA_mem 395 (by decide +kernel) rfl
theorem cl_L_10 : Cond.classLink RL 10 RX3 ∈ wA := wA_mem 396 (by decide +kernel) rfl
theorem ia_X3 : Cond.instantiable RX3 20 ∈ wA := wA_mem 397 (by decide +kernel) rfl
theorem ml_L_12 : Cond.methodLink RL 12 yX3_init ∈ wA := wA_mem 398 (by decide +kernel) rfl
theorem im_X3_init : Cond.instanceMethod yX3_init ∈ wA := wA_mem 399 (by decide +kernel) rfl
theorem co_X3_init : Cond.code yX3_init cX3_init 2 none ∈ wA := wA_mem 400 (by decide +kernel) rfl
theorem ml_X3_1 : Cond.methodLink RX3 1 objectInit ∈ wA := wA_mem 401 (by decide +kernel) rfl
theorem fl_X3_7 : Cond.fieldLink RX3 7 (TX3 0).1 (TX3 0).2.1 (TX3 0).2.2.1 ∈ wA := wA_mem 402 (by decide +kernel) rfl
theorem fl_X3_13 : Cond.fieldLink RX3 13 (TX3 1).1 (TX3 1).2.1 (TX3 1).2.2.1 ∈ wA := wA_mem 403 (by decide +kernel) rfl
theorem fl_X3_17 : Cond.fieldLink RX3 17 (TX3 2).1 (TX3 2).2.1 (TX3 2).2.2.1 ∈ wA := wA_mem 404 (by decide +kernel) rfl
theorem fl_X3_20 : Cond.fieldLink RX3 20 (TX3 3).1 (TX3 3).2.1 (TX3 3).2.2.1 ∈ wA := wA_mem 405 (by decide +kernel) rfl
theorem fl_X3_23 : Cond.fieldLink RX3 23 (TX3 4).1 (TX3 4).2.1 (TX3 4).2.2.1 ∈ wA := wA_mem 406 (by decide +kernel) rfl
theorem fl_X3_26 : Cond.fieldLink RX3 26 (TX3 5).1 (TX3 5).2.1 (TX3 5).2.2.1 ∈ wA := wA_mem 407 (by decide +kernel) rfl
theorem fl_X3_29 : Cond.fieldLink RX3 29 (TX3 6).1 (TX3 6).2.1 (TX3 6).2.2.1 ∈ wA := wA_mem 408 (by decide +kernel) rfl
theorem fl_X3_32 : Cond.fieldLink RX3 32 (TX3 7).1 (TX3 7).2.1 (TX3 7).2.2.1 ∈ wA := wA_mem 409 (by decide +kernel) rfl
theorem fl_X3_35 : Cond.fieldLink RX3 35 (TX3 8).1 (TX3 8).2.1 (TX3 8).2.2.1 ∈ wA := wA_mem 410 (by decide +kernel) rfl
theorem fl_X3_38 : Cond.fieldLink RX3 38 (TX3 9).1 (TX3 9).2.1 (TX3 9).2.2.1 ∈ wA := wA_mem 411 (by decide +kernel) rfl
theorem fl_X3_41 : Cond.fieldLink RX3 41 (TX3 10).1 (TX3 10).2.1 (TX3 10).2.2.1 ∈ wA := wA_mem 412 (by decide +kernel) rfl
theorem fl_X3_44 : Cond.fieldLink RX3 44 (TX3 11).1 (TX3 11).2.1 (TX3 11).2.2.1 ∈ wA := wA_mem 413 (by decide +kernel) rfl
theorem fl_X3_47 : Cond.fieldLink RX3 47 (TX3 12).1 (TX3 12).2.1 (TX3 12).2.2.1 ∈ wA := wA_mem 414 (by decide +kernel) rfl
theorem fl_X3_80 : Cond.fieldLink RX3 80 (TX3 13).1 (TX3 13).2.1 (TX3 13).2.2.1 ∈ wA := wA_mem 415 (by decide +kernel) rfl
theorem fl_X3_122 : Cond.fieldLink RX3 122 (TX3 14).1 (TX3 14).2.1 (TX3 14).2.2.1 ∈ wA := wA_mem 416 (by decide +kernel) rfl
theorem fl_X3_63 : Cond.fieldLink RX3 63 (TX3 15).1 (TX3 15).2.1 (TX3 15).2.2.1 ∈ wA := wA_mem 417 (by decide +kernel) rfl
theorem fl_X3_131 : Cond.fieldLink RX3 131 (TX3 16).1 (TX3 16).2.1 (TX3 16).2.2.1 ∈ wA := wA_mem 418 (by decide +kernel) rfl
theorem fl_X3_50 : Cond.fieldLink RX3 50 (TX3 17).1 (TX3 17).2.1 (TX3 17).2.2.1 ∈ wA := wA_mem 419 (by decide +kernel) rfl
theorem fl_X3_53 : Cond.fieldLink RX3 53 (TX3 18).1 (TX3 18).2.1 (TX3 18).2.2.1 ∈ wA := wA_mem 420 (by decide +kernel) rfl
theorem fl_X3_56 : Cond.fieldLink RX3 56 (TX3 19).1 (TX3 19).2.1 (TX3 19).2.2.1 ∈ wA := wA_mem 421 (by decide +kernel) rfl
theorem ac_boolean : Cond.arrayClass .boolean ∈ wA := wA_mem 463 (by decide +kernel) rfl
theorem ml_L_17 : Cond.methodLink RL 17 yX3_spawn ∈ wA := wA_mem 464 (by decide +kernel) rfl
theorem im_X3_spawn : Cond.instanceMethod yX3_spawn ∈ wA := wA_mem 465 (by decide +kernel) rfl
theorem se_X3_spawn : Cond.selects RX3 yX3_spawn yX3_spawn ∈ wA := wA_mem 466 (by decide +kernel) rfl
theorem co_X3_spawn : Cond.code yX3_spawn cX3_spawn 3 (some .int) ∈ wA := wA_mem 467 (by decide +kernel) rfl
theorem ml_X3_83 : Cond.methodLink RX3 83 yX3_unusedNumber ∈ wA := wA_mem 468 (by decide +kernel) rfl
theorem im_X3_unusedNumber : Cond.instanceMethod yX3_unusedNumber ∈ wA := wA_mem 470 (by decide +kernel) rfl
theorem co_X3_unusedNumber : Cond.code yX3_unusedNumber cX3_unusedNumber 2 (some .int) ∈ wA := wA_mem 471 (by decide +kernel) rfl
theorem ml_X3_87 : Cond.methodLink RX3 87 yX3_layAside ∈ wA := wA_mem 472 (by decide +kernel) rfl
theorem im_X3_layAside : Cond.instanceMethod yX3_layAside ∈ wA := wA_mem 474 (by decide +kernel) rfl
theorem co_X3_layAside : Cond.code yX3_layAside cX3_layAside 2 none ∈ wA := wA_mem 475 (by decide +kernel) rfl
theorem ml_X3_90 : Cond.methodLink RX3 90 yX3_takeSmall ∈ wA := wA_mem 476 (by decide +kernel) rfl
theorem im_X3_takeSmall : Cond.instanceMethod yX3_takeSmall ∈ wA := wA_mem 478 (by decide +kernel) rfl
theorem co_X3_takeSmall : Cond.code yX3_takeSmall cX3_takeSmall 4 (some .int) ∈ wA := wA_mem 479 (by decide +kernel) rfl
theorem ml_X3_67 : Cond.methodLink RX3 67 yX3_freePlace ∈ wA := wA_mem 480 (by decide +kernel) rfl
theorem im_X3_freePlace : Cond.instanceMethod yX3_freePlace ∈ wA := wA_mem 482 (by decide +kernel) rfl
theorem co_X3_freePlace : Cond.code yX3_freePlace cX3_freePlace 3 (some .int) ∈ wA := wA_mem 483 (by decide +kernel) rfl
theorem ml_X3_70 : Cond.methodLink RX3 70 yX3_takeFrame ∈ wA := wA_mem 484 (by decide +kernel) rfl
theorem im_X3_takeFrame : Cond.instanceMethod yX3_takeFrame ∈ wA := wA_mem 486 (by decide +kernel) rfl
theorem co_X3_takeFrame : Cond.code yX3_takeFrame cX3_takeFrame 3 (some .int) ∈ wA := wA_mem 487 (by decide +kernel) rfl
theorem ml_X3_59 : Cond.methodLink RX3 59 yX3_takeBlock ∈ wA := wA_mem 488 (by decide +kernel) rfl
theorem im_X3_takeBlock : Cond.instanceMethod yX3_takeBlock ∈ wA := wA_mem 490 (by decide +kernel) rfl
theorem co_X3_takeBlock : Cond.code yX3_takeBlock cX3_takeBlock 5 (some .int) ∈ wA := wA_mem 491 (by decide +kernel) rfl
theorem ml_X3_93 : Cond.methodLink RX3 93 yX3_fail ∈ wA := wA_mem 492 (by decide +kernel) rfl
theorem im_X3_fail : Cond.instanceMethod yX3_fail ∈ wA := wA_mem 494 (by decide +kernel) rfl
theorem co_X3_fail : Cond.code yX3_fail cX3_fail 2 (some .int) ∈ wA := wA_mem 495 (by decide +kernel) rfl
theorem ml_X3_96 : Cond.methodLink RX3 96 yX3_begin ∈ wA := wA_mem 496 (by decide +kernel) rfl
theorem im_X3_begin : Cond.instanceMethod yX3_begin ∈ wA := wA_mem 498 (by decide +kernel) rfl
theorem co_X3_begin : Cond.code yX3_begin cX3_begin 4 none ∈ wA := wA_mem 499 (by decide +kernel) rfl
theorem ml_L_22 : Cond.methodLink RL 22 yX3_fork ∈ wA := wA_mem 500 (by decide +kernel) rfl
theorem im_X3_fork : Cond.instanceMethod yX3_fork ∈ wA := wA_mem 501 (by decide +kernel) rfl
theorem se_X3_fork : Cond.selects RX3 yX3_fork yX3_fork ∈ wA := wA_mem 502 (by decide +kernel) rfl
theorem co_X3_fork : Cond.code yX3_fork cX3_fork 6 (some .int) ∈ wA := wA_mem 503 (by decide +kernel) rfl
theorem ml_X3_100 : Cond.methodLink RX3 100 yX3_isLive ∈ wA := wA_mem 504 (by decide +kernel) rfl
theorem im_X3_isLive : Cond.instanceMethod yX3_isLive ∈ wA := wA_mem 506 (by decide +kernel) rfl
theorem co_X3_isLive : Cond.code yX3_isLive cX3_isLive 2 (some .boolean) ∈ wA := wA_mem 507 (by decide +kernel) rfl
theorem ml_L_27 : Cond.methodLink RL 27 yX3_grow ∈ wA := wA_mem 508 (by decide +kernel) rfl
theorem im_X3_grow : Cond.instanceMethod yX3_grow ∈ wA := wA_mem 509 (by decide +kernel) rfl
theorem se_X3_grow : Cond.selects RX3 yX3_grow yX3_grow ∈ wA := wA_mem 510 (by decide +kernel) rfl
theorem co_X3_grow : Cond.code yX3_grow cX3_grow 8 (some .int) ∈ wA := wA_mem 511 (by decide +kernel) rfl
theorem kl_111 : Cond.constantLong RX3 111 (-1) ∈ wA := wA_mem 512 (by decide +kernel) rfl
theorem kl_113 : Cond.constantLong RX3 113 (256) ∈ wA := wA_mem 513 (by decide +kernel) rfl
theorem ml_X3_115 : Cond.methodLink RX3 115 yX3_dropPage ∈ wA := wA_mem 514 (by decide +kernel) rfl
theorem im_X3_dropPage : Cond.instanceMethod yX3_dropPage ∈ wA := wA_mem 516 (by decide +kernel) rfl
theorem co_X3_dropPage : Cond.code yX3_dropPage cX3_dropPage 4 none ∈ wA := wA_mem 517 (by decide +kernel) rfl
theorem ml_X3_104 : Cond.methodLink RX3 104 yX3_users ∈ wA := wA_mem 518 (by decide +kernel) rfl
theorem im_X3_users : Cond.instanceMethod yX3_users ∈ wA := wA_mem 520 (by decide +kernel) rfl
theorem co_X3_users : Cond.code yX3_users cX3_users 5 (some .int) ∈ wA := wA_mem 521 (by decide +kernel) rfl
theorem ml_X3_76 : Cond.methodLink RX3 76 yX3_giveBlock ∈ wA := wA_mem 522 (by decide +kernel) rfl
theorem im_X3_giveBlock : Cond.instanceMethod yX3_giveBlock ∈ wA := wA_mem 524 (by decide +kernel) rfl
theorem co_X3_giveBlock : Cond.code yX3_giveBlock cX3_giveBlock 6 none ∈ wA := wA_mem 525 (by decide +kernel) rfl
theorem ml_X3_107 : Cond.methodLink RX3 107 yX3_giveSmall ∈ wA := wA_mem 526 (by decide +kernel) rfl
theorem im_X3_giveSmall : Cond.instanceMethod yX3_giveSmall ∈ wA := wA_mem 528 (by decide +kernel) rfl
theorem co_X3_giveSmall : Cond.code yX3_giveSmall cX3_giveSmall 2 none ∈ wA := wA_mem 529 (by decide +kernel) rfl
theorem ml_X3_73 : Cond.methodLink RX3 73 yX3_smallIn ∈ wA := wA_mem 530 (by decide +kernel) rfl
theorem im_X3_smallIn : Cond.instanceMethod yX3_smallIn ∈ wA := wA_mem 532 (by decide +kernel) rfl
theorem co_X3_smallIn : Cond.code yX3_smallIn cX3_smallIn 4 (some .int) ∈ wA := wA_mem 533 (by decide +kernel) rfl
theorem ml_L_36 : Cond.methodLink RL 36 yX3_has ∈ wA := wA_mem 534 (by decide +kernel) rfl
theorem im_X3_has : Cond.instanceMethod yX3_has ∈ wA := wA_mem 535 (by decide +kernel) rfl
theorem se_X3_has : Cond.selects RX3 yX3_has yX3_has ∈ wA := wA_mem 536 (by decide +kernel) rfl
theorem co_X3_has : Cond.code yX3_has cX3_has 3 (some .boolean) ∈ wA := wA_mem 537 (by decide +kernel) rfl
theorem ml_L_31 : Cond.methodLink RL 31 yX3_load ∈ wA := wA_mem 538 (by decide +kernel) rfl
theorem im_X3_load : Cond.instanceMethod yX3_load ∈ wA := wA_mem 539 (by decide +kernel) rfl
theorem se_X3_load : Cond.selects RX3 yX3_load yX3_load ∈ wA := wA_mem 540 (by decide +kernel) rfl
theorem co_X3_load : Cond.code yX3_load cX3_load 3 (some .int) ∈ wA := wA_mem 541 (by decide +kernel) rfl
theorem ml_X3_118 : Cond.methodLink RX3 118 yX3_has ∈ wA := wA_mem 542 (by decide +kernel) rfl
theorem ml_L_41 : Cond.methodLink RL 41 yX3_store ∈ wA := wA_mem 543 (by decide +kernel) rfl
theorem im_X3_store : Cond.instanceMethod yX3_store ∈ wA := wA_mem 544 (by decide +kernel) rfl
theorem se_X3_store : Cond.selects RX3 yX3_store yX3_store ∈ wA := wA_mem 545 (by decide +kernel) rfl
theorem co_X3_store : Cond.code yX3_store cX3_store 8 (some .int) ∈ wA := wA_mem 546 (by decide +kernel) rfl
theorem ml_L_45 : Cond.methodLink RL 45 yX3_exit ∈ wA := wA_mem 547 (by decide +kernel) rfl
theorem im_X3_exit : Cond.instanceMethod yX3_exit ∈ wA := wA_mem 548 (by decide +kernel) rfl
theorem se_X3_exit : Cond.selects RX3 yX3_exit yX3_exit ∈ wA := wA_mem 549 (by decide +kernel) rfl
theorem co_X3_exit : Cond.code yX3_exit cX3_exit 5 (some .int) ∈ wA := wA_mem 550 (by decide +kernel) rfl
theorem ml_X3_125 : Cond.methodLink RX3 125 yX3_placeInRow ∈ wA := wA_mem 551 (by decide +kernel) rfl
theorem im_X3_placeInRow : Cond.instanceMethod yX3_placeInRow ∈ wA := wA_mem 553 (by decide +kernel) rfl
theorem co_X3_placeInRow : Cond.code yX3_placeInRow cX3_placeInRow 3 (some .int) ∈ wA := wA_mem 554 (by decide +kernel) rfl
theorem ml_X3_128 : Cond.methodLink RX3 128 yX3_vanish ∈ wA := wA_mem 555 (by decide +kernel) rfl
theorem im_X3_vanish : Cond.instanceMethod yX3_vanish ∈ wA := wA_mem 557 (by decide +kernel) rfl
theorem co_X3_vanish : Cond.code yX3_vanish cX3_vanish 2 none ∈ wA := wA_mem 558 (by decide +kernel) rfl
theorem ml_L_49 : Cond.methodLink RL 49 yX3_reap ∈ wA := wA_mem 559 (by decide +kernel) rfl
theorem im_X3_reap : Cond.instanceMethod yX3_reap ∈ wA := wA_mem 560 (by decide +kernel) rfl
theorem se_X3_reap : Cond.selects RX3 yX3_reap yX3_reap ∈ wA := wA_mem 561 (by decide +kernel) rfl
theorem co_X3_reap : Cond.code yX3_reap cX3_reap 5 (some .int) ∈ wA := wA_mem 562 (by decide +kernel) rfl
theorem ml_L_53 : Cond.methodLink RL 53 yX3_tick ∈ wA := wA_mem 563 (by decide +kernel) rfl
theorem im_X3_tick : Cond.instanceMethod yX3_tick ∈ wA := wA_mem 564 (by decide +kernel) rfl
theorem se_X3_tick : Cond.selects RX3 yX3_tick yX3_tick ∈ wA := wA_mem 565 (by decide +kernel) rfl
theorem co_X3_tick : Cond.code yX3_tick cX3_tick 3 (some .int) ∈ wA := wA_mem 566 (by decide +kernel) rfl
theorem ml_L_57 : Cond.methodLink RL 57 yX3_current ∈ wA := wA_mem 567 (by decide +kernel) rfl
theorem im_X3_current : Cond.instanceMethod yX3_current ∈ wA := wA_mem 568 (by decide +kernel) rfl
theorem se_X3_current : Cond.selects RX3 yX3_current yX3_current ∈ wA := wA_mem 569 (by decide +kernel) rfl
theorem co_X3_current : Cond.code yX3_current cX3_current 1 (some .int) ∈ wA := wA_mem 570 (by decide +kernel) rfl
theorem ml_L_61 : Cond.methodLink RL 61 yX3_block ∈ wA := wA_mem 571 (by decide +kernel) rfl
theorem im_X3_block : Cond.instanceMethod yX3_block ∈ wA := wA_mem 572 (by decide +kernel) rfl
theorem se_X3_block : Cond.selects RX3 yX3_block yX3_block ∈ wA := wA_mem 573 (by decide +kernel) rfl
theorem co_X3_block : Cond.code yX3_block cX3_block 4 (some .int) ∈ wA := wA_mem 574 (by decide +kernel) rfl
theorem ml_L_65 : Cond.methodLink RL 65 yX3_unblock ∈ wA := wA_mem 575 (by decide +kernel) rfl
theorem im_X3_unblock : Cond.instanceMethod yX3_unblock ∈ wA := wA_mem 576 (by decide +kernel) rfl
theorem se_X3_unblock : Cond.selects RX3 yX3_unblock yX3_unblock ∈ wA := wA_mem 577 (by decide +kernel) rfl
theorem co_X3_unblock : Cond.code yX3_unblock cX3_unblock 3 (some .int) ∈ wA := wA_mem 578 (by decide +kernel) rfl
theorem ml_L_69 : Cond.methodLink RL 69 yX3_freeFrames ∈ wA := wA_mem 579 (by decide +kernel) rfl
theorem im_X3_freeFrames : Cond.instanceMethod yX3_freeFrames ∈ wA := wA_mem 580 (by decide +kernel) rfl
theorem se_X3_freeFrames : Cond.selects RX3 yX3_freeFrames yX3_freeFrames ∈ wA := wA_mem 581 (by decide +kernel) rfl
theorem co_X3_freeFrames : Cond.code yX3_freeFrames cX3_freeFrames 3 (some .int) ∈ wA := wA_mem 582 (by decide +kernel) rfl
theorem ml_L_73 : Cond.methodLink RL 73 yX3_free ∈ wA := wA_mem 583 (by decide +kernel) rfl
theorem im_X3_free : Cond.instanceMethod yX3_free ∈ wA := wA_mem 584 (by decide +kernel) rfl
theorem se_X3_free : Cond.selects RX3 yX3_free yX3_free ∈ wA := wA_mem 585 (by decide +kernel) rfl
theorem co_X3_free : Cond.code yX3_free cX3_free 6 (some .int) ∈ wA := wA_mem 586 (by decide +kernel) rfl
theorem ml_L_77 : Cond.methodLink RL 77 yX3_frame ∈ wA := wA_mem 587 (by decide +kernel) rfl
theorem im_X3_frame : Cond.instanceMethod yX3_frame ∈ wA := wA_mem 588 (by decide +kernel) rfl
theorem se_X3_frame : Cond.selects RX3 yX3_frame yX3_frame ∈ wA := wA_mem 589 (by decide +kernel) rfl
theorem co_X3_frame : Cond.code yX3_frame cX3_frame 3 (some .int) ∈ wA := wA_mem 590 (by decide +kernel) rfl
theorem ml_L_81 : Cond.methodLink RL 81 yX3_about ∈ wA := wA_mem 591 (by decide +kernel) rfl
theorem im_X3_about : Cond.instanceMethod yX3_about ∈ wA := wA_mem 592 (by decide +kernel) rfl
theorem se_X3_about : Cond.selects RX3 yX3_about yX3_about ∈ wA := wA_mem 593 (by decide +kernel) rfl
theorem co_X3_about : Cond.code yX3_about cX3_about 3 (some .int) ∈ wA := wA_mem 594 (by decide +kernel) rfl
theorem ml_L_85 : Cond.methodLink RL 85 yX3_process ∈ wA := wA_mem 595 (by decide +kernel) rfl
theorem im_X3_process : Cond.instanceMethod yX3_process ∈ wA := wA_mem 596 (by decide +kernel) rfl
theorem se_X3_process : Cond.selects RX3 yX3_process yX3_process ∈ wA := wA_mem 597 (by decide +kernel) rfl
theorem co_X3_process : Cond.code yX3_process cX3_process 5 (some .int) ∈ wA := wA_mem 598 (by decide +kernel) rfl
theorem ml_L_89 : Cond.methodLink RL 89 yX3_told ∈ wA := wA_mem 599 (by decide +kernel) rfl
theorem im_X3_told : Cond.instanceMethod yX3_told ∈ wA := wA_mem 600 (by decide +kernel) rfl
theorem se_X3_told : Cond.selects RX3 yX3_told yX3_told ∈ wA := wA_mem 601 (by decide +kernel) rfl
theorem co_X3_told : Cond.code yX3_told cX3_told 5 (some .int) ∈ wA := wA_mem 602 (by decide +kernel) rfl
theorem inX0 : ∀ w ∈ wsX00, w ∈ wA := wA_all [71, 73] (by decide +kernel) (by decide +kernel)
theorem inX1 : ∀ w ∈ wsX10, w ∈ wA := wA_all [85, 87] (by decide +kernel) (by decide +kernel)
theorem inX2 : ∀ w ∈ wsX20, w ∈ wA := wA_all [106, 108, 110, 112, 114, 116, 118, 120, 122, 124, 126, 128, 130, 132, 134, 136] (by decide +kernel) (by decide +kernel)
theorem inX3 : ∀ w ∈ wsX30, w ∈ wA := wA_all [422, 424, 426, 428, 430, 432, 434, 436, 438, 440, 442, 444, 446, 448, 450, 452, 454, 456, 458, 460] (by decide +kernel) (by decide +kernel)
end
section
theorem dX0_init_0 : decode cX0_init 0 = .ok (.aload_n 0, 1) := by decide +kernel
theorem dX0_init_1 : decode cX0_init 1 = .ok (.invokespecial 3, 3) := by decide +kernel
theorem dX0_init_4 : decode cX0_init 4 = .ok (.aload_n 0, 1) := by decide +kernel
theorem dX0_init_5 : decode cX0_init 5 = .ok (.sipush 128, 3) := by decide +kernel
theorem dX0_init_8 : decode cX0_init 8 = .ok (.newarray .int, 2) := by decide +kernel
theorem dX0_init_10 : decode cX0_init 10 = .ok (.putfield 9, 3) := by decide +kernel
theorem dX0_init_13 : decode cX0_init 13 = .ok (.iconst 0, 1) := by decide +kernel
theorem dX0_init_14 : decode cX0_init 14 = .ok (.istore_n 1, 1) := by decide +kernel
theorem dX0_init_15 : decode cX0_init 15 = .ok (.iload_n 1, 1) := by decide +kernel
theorem dX0_init_16 : decode cX0_init 16 = .ok (.sipush 128, 3) := by decide +kernel
theorem dX0_init_19 : decode cX0_init 19 = .ok (.if_icmp .ge 16, 3) := by decide +kernel
theorem dX0_init_22 : decode cX0_init 22 = .ok (.aload_n 0, 1) := by decide +kernel
theorem dX0_init_23 : decode cX0_init 23 = .ok (.getfield 9, 3) := by decide +kernel
theorem dX0_init_26 : decode cX0_init 26 = .ok (.iload_n 1, 1) := by decide +kernel
theorem dX0_init_27 : decode cX0_init 27 = .ok (.iconst (-1), 1) := by decide +kernel
theorem dX0_init_28 : decode cX0_init 28 = .ok (.iastore, 1) := by decide +kernel
theorem dX0_init_29 : decode cX0_init 29 = .ok (.iinc 1 1, 3) := by decide +kernel
theorem dX0_init_32 : decode cX0_init 32 = .ok (.goto (-17), 3) := by decide +kernel
theorem dX0_init_35 : decode cX0_init 35 = .ok (.aload_n 0, 1) := by decide +kernel
theorem dX0_init_36 : decode cX0_init 36 = .ok (.bipush 8, 2) := by decide +kernel
theorem dX0_init_38 : decode cX0_init 38 = .ok (.newarray .int, 2) := by decide +kernel
theorem dX0_init_40 : decode cX0_init 40 = .ok (.putfield 15, 3) := by decide +kernel
theorem dX0_init_43 : decode cX0_init 43 = .ok (.aload_n 0, 1) := by decide +kernel
theorem dX0_init_44 : decode cX0_init 44 = .ok (.getfield 9, 3) := by decide +kernel
theorem dX0_init_47 : decode cX0_init 47 = .ok (.iconst 0, 1) := by decide +kernel
theorem dX0_init_48 : decode cX0_init 48 = .ok (.bipush 7, 2) := by decide +kernel
theorem dX0_init_50 : decode cX0_init 50 = .ok (.iastore, 1) := by decide +kernel
theorem dX0_init_51 : decode cX0_init 51 = .ok (.aload_n 0, 1) := by decide +kernel
theorem dX0_init_52 : decode cX0_init 52 = .ok (.getfield 15, 3) := by decide +kernel
theorem dX0_init_55 : decode cX0_init 55 = .ok (.bipush 7, 2) := by decide +kernel
theorem dX0_init_57 : decode cX0_init 57 = .ok (.iconst 1, 1) := by decide +kernel
theorem dX0_init_58 : decode cX0_init 58 = .ok (.iastore, 1) := by decide +kernel
theorem dX0_init_59 : decode cX0_init 59 = .ok (.return_, 1) := by decide +kernel
theorem dX0_countOf_0 : decode cX0_countOf 0 = .ok (.iload_n 1, 1) := by decide +kernel
theorem dX0_countOf_1 : decode cX0_countOf 1 = .ok (.invokestatic 18, 3) := by decide +kernel
theorem dX0_countOf_4 : decode cX0_countOf 4 = .ok (.ifCond .eq 12, 3) := by decide +kernel
theorem dX0_countOf_7 : decode cX0_countOf 7 = .ok (.aload_n 0, 1) := by decide +kernel
theorem dX0_countOf_8 : decode cX0_countOf 8 = .ok (.getfield 15, 3) := by decide +kernel
theorem dX0_countOf_11 : decode cX0_countOf 11 = .ok (.iload_n 1, 1) := by decide +kernel
theorem dX0_countOf_12 : decode cX0_countOf 12 = .ok (.iaload, 1) := by decide +kernel
theorem dX0_countOf_13 : decode cX0_countOf 13 = .ok (.goto 4, 3) := by decide +kernel
theorem dX0_countOf_16 : decode cX0_countOf 16 = .ok (.iconst 0, 1) := by decide +kernel
theorem dX0_countOf_17 : decode cX0_countOf 17 = .ok (.ireturn, 1) := by decide +kernel
theorem dX0_leastOf_0 : decode cX0_leastOf 0 = .ok (.aload_n 0, 1) := by decide +kernel
theorem dX0_leastOf_1 : decode cX0_leastOf 1 = .ok (.iload_n 1, 1) := by decide +kernel
theorem dX0_leastOf_2 : decode cX0_leastOf 2 = .ok (.invokevirtual 22, 3) := by decide +kernel
theorem dX0_leastOf_5 : decode cX0_leastOf 5 = .ok (.ifCond .ne 5, 3) := by decide +kernel
theorem dX0_leastOf_8 : decode cX0_leastOf 8 = .ok (.iconst (-1), 1) := by decide +kernel
theorem dX0_leastOf_9 : decode cX0_leastOf 9 = .ok (.ireturn, 1) := by decide +kernel
theorem dX0_leastOf_10 : decode cX0_leastOf 10 = .ok (.iconst 0, 1) := by decide +kernel
theorem dX0_leastOf_11 : decode cX0_leastOf 11 = .ok (.istore_n 2, 1) := by decide +kernel
theorem dX0_leastOf_12 : decode cX0_leastOf 12 = .ok (.iload_n 2, 1) := by decide +kernel
theorem dX0_leastOf_13 : decode cX0_leastOf 13 = .ok (.sipush 128, 3) := by decide +kernel
theorem dX0_leastOf_16 : decode cX0_leastOf 16 = .ok (.if_icmp .ge 24, 3) := by decide +kernel
theorem dX0_leastOf_19 : decode cX0_leastOf 19 = .ok (.aload_n 0, 1) := by decide +kernel
theorem dX0_leastOf_20 : decode cX0_leastOf 20 = .ok (.getfield 9, 3) := by decide +kernel
theorem dX0_leastOf_23 : decode cX0_leastOf 23 = .ok (.iload_n 2, 1) := by decide +kernel
theorem dX0_leastOf_24 : decode cX0_leastOf 24 = .ok (.iaload, 1) := by decide +kernel
theorem dX0_leastOf_25 : decode cX0_leastOf 25 = .ok (.iload_n 1, 1) := by decide +kernel
theorem dX0_leastOf_26 : decode cX0_leastOf 26 = .ok (.if_icmp .ne 5, 3) := by decide +kernel
theorem dX0_leastOf_29 : decode cX0_leastOf 29 = .ok (.iload_n 2, 1) := by decide +kernel
theorem dX0_leastOf_30 : decode cX0_leastOf 30 = .ok (.ireturn, 1) := by decide +kernel
theorem dX0_leastOf_31 : decode cX0_leastOf 31 = .ok (.iload_n 2, 1) := by decide +kernel
theorem dX0_leastOf_32 : decode cX0_leastOf 32 = .ok (.iconst 1, 1) := by decide +kernel
theorem dX0_leastOf_33 : decode cX0_leastOf 33 = .ok (.iload_n 1, 1) := by decide +kernel
theorem dX0_leastOf_34 : decode cX0_leastOf 34 = .ok (.ishl, 1) := by decide +kernel
theorem dX0_leastOf_35 : decode cX0_leastOf 35 = .ok (.iadd, 1) := by decide +kernel
theorem dX0_leastOf_36 : decode cX0_leastOf 36 = .ok (.istore_n 2, 1) := by decide +kernel
theorem dX0_leastOf_37 : decode cX0_leastOf 37 = .ok (.goto (-25), 3) := by decide +kernel
theorem dX0_leastOf_40 : decode cX0_leastOf 40 = .ok (.iconst (-1), 1) := by decide +kernel
theorem dX0_leastOf_41 : decode cX0_leastOf 41 = .ok (.ireturn, 1) := by decide +kernel
theorem dX0_takeBlock_0 : decode cX0_takeBlock 0 = .ok (.iload_n 1, 1) := by decide +kernel
theorem dX0_takeBlock_1 : decode cX0_takeBlock 1 = .ok (.istore_n 2, 1) := by decide +kernel
theorem dX0_takeBlock_2 : decode cX0_takeBlock 2 = .ok (.iload_n 2, 1) := by decide +kernel
theorem dX0_takeBlock_3 : decode cX0_takeBlock 3 = .ok (.bipush 7, 2) := by decide +kernel
theorem dX0_takeBlock_5 : decode cX0_takeBlock 5 = .ok (.if_icmp .gt 57, 3) := by decide +kernel
theorem dX0_takeBlock_8 : decode cX0_takeBlock 8 = .ok (.aload_n 0, 1) := by decide +kernel
theorem dX0_takeBlock_9 : decode cX0_takeBlock 9 = .ok (.iload_n 2, 1) := by decide +kernel
theorem dX0_takeBlock_10 : decode cX0_takeBlock 10 = .ok (.invokevirtual 26, 3) := by decide +kernel
theorem dX0_takeBlock_13 : decode cX0_takeBlock 13 = .ok (.istore_n 3, 1) := by decide +kernel
theorem dX0_takeBlock_14 : decode cX0_takeBlock 14 = .ok (.iload_n 3, 1) := by decide +kernel
theorem dX0_takeBlock_15 : decode cX0_takeBlock 15 = .ok (.iconst (-1), 1) := by decide +kernel
theorem dX0_takeBlock_16 : decode cX0_takeBlock 16 = .ok (.if_icmp .eq 40, 3) := by decide +kernel
theorem dX0_takeBlock_19 : decode cX0_takeBlock 19 = .ok (.aload_n 0, 1) := by decide +kernel
theorem dX0_takeBlock_20 : decode cX0_takeBlock 20 = .ok (.iload_n 3, 1) := by decide +kernel
theorem dX0_takeBlock_21 : decode cX0_takeBlock 21 = .ok (.iload_n 2, 1) := by decide +kernel
theorem dX0_takeBlock_22 : decode cX0_takeBlock 22 = .ok (.invokevirtual 29, 3) := by decide +kernel
theorem dX0_takeBlock_25 : decode cX0_takeBlock 25 = .ok (.iload_n 2, 1) := by decide +kernel
theorem dX0_takeBlock_26 : decode cX0_takeBlock 26 = .ok (.iconst 1, 1) := by decide +kernel
theorem dX0_takeBlock_27 : decode cX0_takeBlock 27 = .ok (.isub, 1) := by decide +kernel
theorem dX0_takeBlock_28 : decode cX0_takeBlock 28 = .ok (.istore 4, 2) := by decide +kernel
theorem dX0_takeBlock_30 : decode cX0_takeBlock 30 = .ok (.iload 4, 2) := by decide +kernel
theorem dX0_takeBlock_32 : decode cX0_takeBlock 32 = .ok (.iload_n 1, 1) := by decide +kernel
theorem dX0_takeBlock_33 : decode cX0_takeBlock 33 = .ok (.if_icmp .lt 21, 3) := by decide +kernel
theorem dX0_takeBlock_36 : decode cX0_takeBlock 36 = .ok (.aload_n 0, 1) := by decide +kernel
theorem dX0_takeBlock_37 : decode cX0_takeBlock 37 = .ok (.iload_n 3, 1) := by decide +kernel
theorem dX0_takeBlock_38 : decode cX0_takeBlock 38 = .ok (.iconst 1, 1) := by decide +kernel
theorem dX0_takeBlock_39 : decode cX0_takeBlock 39 = .ok (.iload 4, 2) := by decide +kernel
theorem dX0_takeBlock_41 : decode cX0_takeBlock 41 = .ok (.ishl, 1) := by decide +kernel
theorem dX0_takeBlock_42 : decode cX0_takeBlock 42 = .ok (.iadd, 1) := by decide +kernel
theorem dX0_takeBlock_43 : decode cX0_takeBlock 43 = .ok (.iload 4, 2) := by decide +kernel
theorem dX0_takeBlock_45 : decode cX0_takeBlock 45 = .ok (.invokevirtual 33, 3) := by decide +kernel
theorem dX0_takeBlock_48 : decode cX0_takeBlock 48 = .ok (.iinc 4 (-1), 3) := by decide +kernel
theorem dX0_takeBlock_51 : decode cX0_takeBlock 51 = .ok (.goto (-21), 3) := by decide +kernel
theorem dX0_takeBlock_54 : decode cX0_takeBlock 54 = .ok (.iload_n 3, 1) := by decide +kernel
theorem dX0_takeBlock_55 : decode cX0_takeBlock 55 = .ok (.ireturn, 1) := by decide +kernel
theorem dX0_takeBlock_56 : decode cX0_takeBlock 56 = .ok (.iinc 2 1, 3) := by decide +kernel
theorem dX0_takeBlock_59 : decode cX0_takeBlock 59 = .ok (.goto (-57), 3) := by decide +kernel
theorem dX0_takeBlock_62 : decode cX0_takeBlock 62 = .ok (.iconst (-1), 1) := by decide +kernel
theorem dX0_takeBlock_63 : decode cX0_takeBlock 63 = .ok (.ireturn, 1) := by decide +kernel
theorem dX0_giveBlock_0 : decode cX0_giveBlock 0 = .ok (.iload_n 1, 1) := by decide +kernel
theorem dX0_giveBlock_1 : decode cX0_giveBlock 1 = .ok (.istore_n 3, 1) := by decide +kernel
theorem dX0_giveBlock_2 : decode cX0_giveBlock 2 = .ok (.iload_n 2, 1) := by decide +kernel
theorem dX0_giveBlock_3 : decode cX0_giveBlock 3 = .ok (.istore 4, 2) := by decide +kernel
theorem dX0_giveBlock_5 : decode cX0_giveBlock 5 = .ok (.iload 4, 2) := by decide +kernel
theorem dX0_giveBlock_7 : decode cX0_giveBlock 7 = .ok (.bipush 7, 2) := by decide +kernel
theorem dX0_giveBlock_9 : decode cX0_giveBlock 9 = .ok (.if_icmp .ge 45, 3) := by decide +kernel
theorem dX0_giveBlock_12 : decode cX0_giveBlock 12 = .ok (.aload_n 0, 1) := by decide +kernel
theorem dX0_giveBlock_13 : decode cX0_giveBlock 13 = .ok (.iload_n 3, 1) := by decide +kernel
theorem dX0_giveBlock_14 : decode cX0_giveBlock 14 = .ok (.iconst 1, 1) := by decide +kernel
theorem dX0_giveBlock_15 : decode cX0_giveBlock 15 = .ok (.iload 4, 2) := by decide +kernel
theorem dX0_giveBlock_17 : decode cX0_giveBlock 17 = .ok (.ishl, 1) := by decide +kernel
theorem dX0_giveBlock_18 : decode cX0_giveBlock 18 = .ok (.ixor, 1) := by decide +kernel
theorem dX0_giveBlock_19 : decode cX0_giveBlock 19 = .ok (.iload 4, 2) := by decide +kernel
theorem dX0_giveBlock_21 : decode cX0_giveBlock 21 = .ok (.invokevirtual 36, 3) := by decide +kernel
theorem dX0_giveBlock_24 : decode cX0_giveBlock 24 = .ok (.ifCond .eq 30, 3) := by decide +kernel
theorem dX0_giveBlock_27 : decode cX0_giveBlock 27 = .ok (.aload_n 0, 1) := by decide +kernel
theorem dX0_giveBlock_28 : decode cX0_giveBlock 28 = .ok (.iload_n 3, 1) := by decide +kernel
theorem dX0_giveBlock_29 : decode cX0_giveBlock 29 = .ok (.iconst 1, 1) := by decide +kernel
theorem dX0_giveBlock_30 : decode cX0_giveBlock 30 = .ok (.iload 4, 2) := by decide +kernel
theorem dX0_giveBlock_32 : decode cX0_giveBlock 32 = .ok (.ishl, 1) := by decide +kernel
theorem dX0_giveBlock_33 : decode cX0_giveBlock 33 = .ok (.ixor, 1) := by decide +kernel
theorem dX0_giveBlock_34 : decode cX0_giveBlock 34 = .ok (.iload 4, 2) := by decide +kernel
theorem dX0_giveBlock_36 : decode cX0_giveBlock 36 = .ok (.invokevirtual 29, 3) := by decide +kernel
theorem dX0_giveBlock_39 : decode cX0_giveBlock 39 = .ok (.iload_n 3, 1) := by decide +kernel
theorem dX0_giveBlock_40 : decode cX0_giveBlock 40 = .ok (.iconst 1, 1) := by decide +kernel
theorem dX0_giveBlock_41 : decode cX0_giveBlock 41 = .ok (.iload 4, 2) := by decide +kernel
theorem dX0_giveBlock_43 : decode cX0_giveBlock 43 = .ok (.ishl, 1) := by decide +kernel
theorem dX0_giveBlock_44 : decode cX0_giveBlock 44 = .ok (.iconst (-1), 1) := by decide +kernel
theorem dX0_giveBlock_45 : decode cX0_giveBlock 45 = .ok (.ixor, 1) := by decide +kernel
theorem dX0_giveBlock_46 : decode cX0_giveBlock 46 = .ok (.iand, 1) := by decide +kernel
theorem dX0_giveBlock_47 : decode cX0_giveBlock 47 = .ok (.istore_n 3, 1) := by decide +kernel
theorem dX0_giveBlock_48 : decode cX0_giveBlock 48 = .ok (.iinc 4 1, 3) := by decide +kernel
theorem dX0_giveBlock_51 : decode cX0_giveBlock 51 = .ok (.goto (-46), 3) := by decide +kernel
theorem dX0_giveBlock_54 : decode cX0_giveBlock 54 = .ok (.aload_n 0, 1) := by decide +kernel
theorem dX0_giveBlock_55 : decode cX0_giveBlock 55 = .ok (.iload_n 3, 1) := by decide +kernel
theorem dX0_giveBlock_56 : decode cX0_giveBlock 56 = .ok (.iload 4, 2) := by decide +kernel
theorem dX0_giveBlock_58 : decode cX0_giveBlock 58 = .ok (.invokevirtual 33, 3) := by decide +kernel
theorem dX0_giveBlock_61 : decode cX0_giveBlock 61 = .ok (.return_, 1) := by decide +kernel
theorem dX0_isFreeBlock_0 : decode cX0_isFreeBlock 0 = .ok (.iload_n 1, 1) := by decide +kernel
theorem dX0_isFreeBlock_1 : decode cX0_isFreeBlock 1 = .ok (.invokestatic 40, 3) := by decide +kernel
theorem dX0_isFreeBlock_4 : decode cX0_isFreeBlock 4 = .ok (.ifCond .eq 17, 3) := by decide +kernel
theorem dX0_isFreeBlock_7 : decode cX0_isFreeBlock 7 = .ok (.aload_n 0, 1) := by decide +kernel
theorem dX0_isFreeBlock_8 : decode cX0_isFreeBlock 8 = .ok (.getfield 9, 3) := by decide +kernel
theorem dX0_isFreeBlock_11 : decode cX0_isFreeBlock 11 = .ok (.iload_n 1, 1) := by decide +kernel
theorem dX0_isFreeBlock_12 : decode cX0_isFreeBlock 12 = .ok (.iaload, 1) := by decide +kernel
theorem dX0_isFreeBlock_13 : decode cX0_isFreeBlock 13 = .ok (.iload_n 2, 1) := by decide +kernel
theorem dX0_isFreeBlock_14 : decode cX0_isFreeBlock 14 = .ok (.if_icmp .ne 7, 3) := by decide +kernel
theorem dX0_isFreeBlock_17 : decode cX0_isFreeBlock 17 = .ok (.iconst 1, 1) := by decide +kernel
theorem dX0_isFreeBlock_18 : decode cX0_isFreeBlock 18 = .ok (.goto 4, 3) := by decide +kernel
theorem dX0_isFreeBlock_21 : decode cX0_isFreeBlock 21 = .ok (.iconst 0, 1) := by decide +kernel
theorem dX0_isFreeBlock_22 : decode cX0_isFreeBlock 22 = .ok (.ireturn, 1) := by decide +kernel
theorem dX0_putIn_0 : decode cX0_putIn 0 = .ok (.iload_n 1, 1) := by decide +kernel
theorem dX0_putIn_1 : decode cX0_putIn 1 = .ok (.invokestatic 40, 3) := by decide +kernel
theorem dX0_putIn_4 : decode cX0_putIn 4 = .ok (.ifCond .eq 27, 3) := by decide +kernel
theorem dX0_putIn_7 : decode cX0_putIn 7 = .ok (.iload_n 2, 1) := by decide +kernel
theorem dX0_putIn_8 : decode cX0_putIn 8 = .ok (.invokestatic 18, 3) := by decide +kernel
theorem dX0_putIn_11 : decode cX0_putIn 11 = .ok (.ifCond .eq 20, 3) := by decide +kernel
theorem dX0_putIn_14 : decode cX0_putIn 14 = .ok (.aload_n 0, 1) := by decide +kernel
theorem dX0_putIn_15 : decode cX0_putIn 15 = .ok (.getfield 9, 3) := by decide +kernel
theorem dX0_putIn_18 : decode cX0_putIn 18 = .ok (.iload_n 1, 1) := by decide +kernel
theorem dX0_putIn_19 : decode cX0_putIn 19 = .ok (.iload_n 2, 1) := by decide +kernel
theorem dX0_putIn_20 : decode cX0_putIn 20 = .ok (.iastore, 1) := by decide +kernel
theorem dX0_putIn_21 : decode cX0_putIn 21 = .ok (.aload_n 0, 1) := by decide +kernel
theorem dX0_putIn_22 : decode cX0_putIn 22 = .ok (.getfield 15, 3) := by decide +kernel
theorem dX0_putIn_25 : decode cX0_putIn 25 = .ok (.iload_n 2, 1) := by decide +kernel
theorem dX0_putIn_26 : decode cX0_putIn 26 = .ok (.dup2, 1) := by decide +kernel
theorem dX0_putIn_27 : decode cX0_putIn 27 = .ok (.iaload, 1) := by decide +kernel
theorem dX0_putIn_28 : decode cX0_putIn 28 = .ok (.iconst 1, 1) := by decide +kernel
theorem dX0_putIn_29 : decode cX0_putIn 29 = .ok (.iadd, 1) := by decide +kernel
theorem dX0_putIn_30 : decode cX0_putIn 30 = .ok (.iastore, 1) := by decide +kernel
theorem dX0_putIn_31 : decode cX0_putIn 31 = .ok (.return_, 1) := by decide +kernel
theorem dX0_leaveOut_0 : decode cX0_leaveOut 0 = .ok (.iload_n 1, 1) := by decide +kernel
theorem dX0_leaveOut_1 : decode cX0_leaveOut 1 = .ok (.invokestatic 40, 3) := by decide +kernel
theorem dX0_leaveOut_4 : decode cX0_leaveOut 4 = .ok (.ifCond .eq 27, 3) := by decide +kernel
theorem dX0_leaveOut_7 : decode cX0_leaveOut 7 = .ok (.iload_n 2, 1) := by decide +kernel
theorem dX0_leaveOut_8 : decode cX0_leaveOut 8 = .ok (.invokestatic 18, 3) := by decide +kernel
theorem dX0_leaveOut_11 : decode cX0_leaveOut 11 = .ok (.ifCond .eq 20, 3) := by decide +kernel
theorem dX0_leaveOut_14 : decode cX0_leaveOut 14 = .ok (.aload_n 0, 1) := by decide +kernel
theorem dX0_leaveOut_15 : decode cX0_leaveOut 15 = .ok (.getfield 9, 3) := by decide +kernel
theorem dX0_leaveOut_18 : decode cX0_leaveOut 18 = .ok (.iload_n 1, 1) := by decide +kernel
theorem dX0_leaveOut_19 : decode cX0_leaveOut 19 = .ok (.iconst (-1), 1) := by decide +kernel
theorem dX0_leaveOut_20 : decode cX0_leaveOut 20 = .ok (.iastore, 1) := by decide +kernel
theorem dX0_leaveOut_21 : decode cX0_leaveOut 21 = .ok (.aload_n 0, 1) := by decide +kernel
theorem dX0_leaveOut_22 : decode cX0_leaveOut 22 = .ok (.getfield 15, 3) := by decide +kernel
theorem dX0_leaveOut_25 : decode cX0_leaveOut 25 = .ok (.iload_n 2, 1) := by decide +kernel
theorem dX0_leaveOut_26 : decode cX0_leaveOut 26 = .ok (.dup2, 1) := by decide +kernel
theorem dX0_leaveOut_27 : decode cX0_leaveOut 27 = .ok (.iaload, 1) := by decide +kernel
theorem dX0_leaveOut_28 : decode cX0_leaveOut 28 = .ok (.iconst 1, 1) := by decide +kernel
theorem dX0_leaveOut_29 : decode cX0_leaveOut 29 = .ok (.isub, 1) := by decide +kernel
theorem dX0_leaveOut_30 : decode cX0_leaveOut 30 = .ok (.iastore, 1) := by decide +kernel
theorem dX0_leaveOut_31 : decode cX0_leaveOut 31 = .ok (.return_, 1) := by decide +kernel
theorem dX1_init_0 : decode cX1_init 0 = .ok (.aload_n 0, 1) := by decide +kernel
theorem dX1_init_1 : decode cX1_init 1 = .ok (.invokespecial 3, 3) := by decide +kernel
theorem dX1_init_4 : decode cX1_init 4 = .ok (.aload_n 0, 1) := by decide +kernel
theorem dX1_init_5 : decode cX1_init 5 = .ok (.aload_n 1, 1) := by decide +kernel
theorem dX1_init_6 : decode cX1_init 6 = .ok (.putfield 9, 3) := by decide +kernel
theorem dX1_init_9 : decode cX1_init 9 = .ok (.aload_n 0, 1) := by decide +kernel
theorem dX1_init_10 : decode cX1_init 10 = .ok (.sipush 128, 3) := by decide +kernel
theorem dX1_init_13 : decode cX1_init 13 = .ok (.newarray .int, 2) := by decide +kernel
theorem dX1_init_15 : decode cX1_init 15 = .ok (.putfield 15, 3) := by decide +kernel
theorem dX1_init_18 : decode cX1_init 18 = .ok (.return_, 1) := by decide +kernel
theorem dX1_countIn_0 : decode cX1_countIn 0 = .ok (.iload_n 1, 1) := by decide +kernel
theorem dX1_countIn_1 : decode cX1_countIn 1 = .ok (.invokestatic 19, 3) := by decide +kernel
theorem dX1_countIn_4 : decode cX1_countIn 4 = .ok (.ifCond .eq 15, 3) := by decide +kernel
theorem dX1_countIn_7 : decode cX1_countIn 7 = .ok (.aload_n 0, 1) := by decide +kernel
theorem dX1_countIn_8 : decode cX1_countIn 8 = .ok (.getfield 15, 3) := by decide +kernel
theorem dX1_countIn_11 : decode cX1_countIn 11 = .ok (.iload_n 1, 1) := by decide +kernel
theorem dX1_countIn_12 : decode cX1_countIn 12 = .ok (.iaload, 1) := by decide +kernel
theorem dX1_countIn_13 : decode cX1_countIn 13 = .ok (.invokestatic 23, 3) := by decide +kernel
theorem dX1_countIn_16 : decode cX1_countIn 16 = .ok (.goto 4, 3) := by decide +kernel
theorem dX1_countIn_19 : decode cX1_countIn 19 = .ok (.iconst 0, 1) := by decide +kernel
theorem dX1_countIn_20 : decode cX1_countIn 20 = .ok (.ireturn, 1) := by decide +kernel
theorem dX1_takePlace_0 : decode cX1_takePlace 0 = .ok (.aload_n 0, 1) := by decide +kernel
theorem dX1_takePlace_1 : decode cX1_takePlace 1 = .ok (.invokevirtual 29, 3) := by decide +kernel
theorem dX1_takePlace_4 : decode cX1_takePlace 4 = .ok (.istore_n 1, 1) := by decide +kernel
theorem dX1_takePlace_5 : decode cX1_takePlace 5 = .ok (.iload_n 1, 1) := by decide +kernel
theorem dX1_takePlace_6 : decode cX1_takePlace 6 = .ok (.iconst (-1), 1) := by decide +kernel
theorem dX1_takePlace_7 : decode cX1_takePlace 7 = .ok (.if_icmp .ne 12, 3) := by decide +kernel
theorem dX1_takePlace_10 : decode cX1_takePlace 10 = .ok (.aload_n 0, 1) := by decide +kernel
theorem dX1_takePlace_11 : decode cX1_takePlace 11 = .ok (.getfield 9, 3) := by decide +kernel
theorem dX1_takePlace_14 : decode cX1_takePlace 14 = .ok (.iconst 0, 1) := by decide +kernel
theorem dX1_takePlace_15 : decode cX1_takePlace 15 = .ok (.invokevirtual 33, 3) := by decide +kernel
theorem dX1_takePlace_18 : decode cX1_takePlace 18 = .ok (.istore_n 1, 1) := by decide +kernel
theorem dX1_takePlace_19 : decode cX1_takePlace 19 = .ok (.iload_n 1, 1) := by decide +kernel
theorem dX1_takePlace_20 : decode cX1_takePlace 20 = .ok (.invokestatic 19, 3) := by decide +kernel
theorem dX1_takePlace_23 : decode cX1_takePlace 23 = .ok (.ifCond .ne 5, 3) := by decide +kernel
theorem dX1_takePlace_26 : decode cX1_takePlace 26 = .ok (.iconst (-1), 1) := by decide +kernel
theorem dX1_takePlace_27 : decode cX1_takePlace 27 = .ok (.ireturn, 1) := by decide +kernel
theorem dX1_takePlace_28 : decode cX1_takePlace 28 = .ok (.iconst 0, 1) := by decide +kernel
theorem dX1_takePlace_29 : decode cX1_takePlace 29 = .ok (.istore_n 2, 1) := by decide +kernel
theorem dX1_takePlace_30 : decode cX1_takePlace 30 = .ok (.iload_n 2, 1) := by decide +kernel
theorem dX1_takePlace_31 : decode cX1_takePlace 31 = .ok (.iconst 4, 1) := by decide +kernel
theorem dX1_takePlace_32 : decode cX1_takePlace 32 = .ok (.if_icmp .ge 40, 3) := by decide +kernel
theorem dX1_takePlace_35 : decode cX1_takePlace 35 = .ok (.aload_n 0, 1) := by decide +kernel
theorem dX1_takePlace_36 : decode cX1_takePlace 36 = .ok (.getfield 15, 3) := by decide +kernel
theorem dX1_takePlace_39 : decode cX1_takePlace 39 = .ok (.iload_n 1, 1) := by decide +kernel
theorem dX1_takePlace_40 : decode cX1_takePlace 40 = .ok (.iaload, 1) := by decide +kernel
theorem dX1_takePlace_41 : decode cX1_takePlace 41 = .ok (.iconst 1, 1) := by decide +kernel
theorem dX1_takePlace_42 : decode cX1_takePlace 42 = .ok (.iload_n 2, 1) := by decide +kernel
theorem dX1_takePlace_43 : decode cX1_takePlace 43 = .ok (.ishl, 1) := by decide +kernel
theorem dX1_takePlace_44 : decode cX1_takePlace 44 = .ok (.iand, 1) := by decide +kernel
theorem dX1_takePlace_45 : decode cX1_takePlace 45 = .ok (.ifCond .ne 21, 3) := by decide +kernel
theorem dX1_takePlace_48 : decode cX1_takePlace 48 = .ok (.aload_n 0, 1) := by decide +kernel
theorem dX1_takePlace_49 : decode cX1_takePlace 49 = .ok (.getfield 15, 3) := by decide +kernel
theorem dX1_takePlace_52 : decode cX1_takePlace 52 = .ok (.iload_n 1, 1) := by decide +kernel
theorem dX1_takePlace_53 : decode cX1_takePlace 53 = .ok (.dup2, 1) := by decide +kernel
theorem dX1_takePlace_54 : decode cX1_takePlace 54 = .ok (.iaload, 1) := by decide +kernel
theorem dX1_takePlace_55 : decode cX1_takePlace 55 = .ok (.iconst 1, 1) := by decide +kernel
theorem dX1_takePlace_56 : decode cX1_takePlace 56 = .ok (.iload_n 2, 1) := by decide +kernel
theorem dX1_takePlace_57 : decode cX1_takePlace 57 = .ok (.ishl, 1) := by decide +kernel
theorem dX1_takePlace_58 : decode cX1_takePlace 58 = .ok (.ior, 1) := by decide +kernel
theorem dX1_takePlace_59 : decode cX1_takePlace 59 = .ok (.iastore, 1) := by decide +kernel
theorem dX1_takePlace_60 : decode cX1_takePlace 60 = .ok (.iload_n 1, 1) := by decide +kernel
theorem dX1_takePlace_61 : decode cX1_takePlace 61 = .ok (.iconst 4, 1) := by decide +kernel
theorem dX1_takePlace_62 : decode cX1_takePlace 62 = .ok (.imul, 1) := by decide +kernel
theorem dX1_takePlace_63 : decode cX1_takePlace 63 = .ok (.iload_n 2, 1) := by decide +kernel
theorem dX1_takePlace_64 : decode cX1_takePlace 64 = .ok (.iadd, 1) := by decide +kernel
theorem dX1_takePlace_65 : decode cX1_takePlace 65 = .ok (.ireturn, 1) := by decide +kernel
theorem dX1_takePlace_66 : decode cX1_takePlace 66 = .ok (.iinc 2 1, 3) := by decide +kernel
theorem dX1_takePlace_69 : decode cX1_takePlace 69 = .ok (.goto (-39), 3) := by decide +kernel
theorem dX1_takePlace_72 : decode cX1_takePlace 72 = .ok (.iconst (-1), 1) := by decide +kernel
theorem dX1_takePlace_73 : decode cX1_takePlace 73 = .ok (.ireturn, 1) := by decide +kernel
theorem dX1_givePlace_0 : decode cX1_givePlace 0 = .ok (.iload_n 1, 1) := by decide +kernel
theorem dX1_givePlace_1 : decode cX1_givePlace 1 = .ok (.iconst 4, 1) := by decide +kernel
theorem dX1_givePlace_2 : decode cX1_givePlace 2 = .ok (.idiv, 1) := by decide +kernel
theorem dX1_givePlace_3 : decode cX1_givePlace 3 = .ok (.istore_n 2, 1) := by decide +kernel
theorem dX1_givePlace_4 : decode cX1_givePlace 4 = .ok (.iload_n 1, 1) := by decide +kernel
theorem dX1_givePlace_5 : decode cX1_givePlace 5 = .ok (.ifCond .lt 10, 3) := by decide +kernel
theorem dX1_givePlace_8 : decode cX1_givePlace 8 = .ok (.iload_n 2, 1) := by decide +kernel
theorem dX1_givePlace_9 : decode cX1_givePlace 9 = .ok (.invokestatic 19, 3) := by decide +kernel
theorem dX1_givePlace_12 : decode cX1_givePlace 12 = .ok (.ifCond .ne 4, 3) := by decide +kernel
theorem dX1_givePlace_15 : decode cX1_givePlace 15 = .ok (.return_, 1) := by decide +kernel
theorem dX1_givePlace_16 : decode cX1_givePlace 16 = .ok (.aload_n 0, 1) := by decide +kernel
theorem dX1_givePlace_17 : decode cX1_givePlace 17 = .ok (.getfield 15, 3) := by decide +kernel
theorem dX1_givePlace_20 : decode cX1_givePlace 20 = .ok (.iload_n 2, 1) := by decide +kernel
theorem dX1_givePlace_21 : decode cX1_givePlace 21 = .ok (.dup2, 1) := by decide +kernel
theorem dX1_givePlace_22 : decode cX1_givePlace 22 = .ok (.iaload, 1) := by decide +kernel
theorem dX1_givePlace_23 : decode cX1_givePlace 23 = .ok (.iconst 1, 1) := by decide +kernel
theorem dX1_givePlace_24 : decode cX1_givePlace 24 = .ok (.iload_n 1, 1) := by decide +kernel
theorem dX1_givePlace_25 : decode cX1_givePlace 25 = .ok (.iconst 4, 1) := by decide +kernel
theorem dX1_givePlace_26 : decode cX1_givePlace 26 = .ok (.irem, 1) := by decide +kernel
theorem dX1_givePlace_27 : decode cX1_givePlace 27 = .ok (.ishl, 1) := by decide +kernel
theorem dX1_givePlace_28 : decode cX1_givePlace 28 = .ok (.iconst (-1), 1) := by decide +kernel
theorem dX1_givePlace_29 : decode cX1_givePlace 29 = .ok (.ixor, 1) := by decide +kernel
theorem dX1_givePlace_30 : decode cX1_givePlace 30 = .ok (.iand, 1) := by decide +kernel
theorem dX1_givePlace_31 : decode cX1_givePlace 31 = .ok (.iastore, 1) := by decide +kernel
theorem dX1_givePlace_32 : decode cX1_givePlace 32 = .ok (.aload_n 0, 1) := by decide +kernel
theorem dX1_givePlace_33 : decode cX1_givePlace 33 = .ok (.getfield 15, 3) := by decide +kernel
theorem dX1_givePlace_36 : decode cX1_givePlace 36 = .ok (.iload_n 2, 1) := by decide +kernel
theorem dX1_givePlace_37 : decode cX1_givePlace 37 = .ok (.iaload, 1) := by decide +kernel
theorem dX1_givePlace_38 : decode cX1_givePlace 38 = .ok (.ifCond .ne 12, 3) := by decide +kernel
theorem dX1_givePlace_41 : decode cX1_givePlace 41 = .ok (.aload_n 0, 1) := by decide +kernel
theorem dX1_givePlace_42 : decode cX1_givePlace 42 = .ok (.getfield 9, 3) := by decide +kernel
theorem dX1_givePlace_45 : decode cX1_givePlace 45 = .ok (.iload_n 2, 1) := by decide +kernel
theorem dX1_givePlace_46 : decode cX1_givePlace 46 = .ok (.iconst 0, 1) := by decide +kernel
theorem dX1_givePlace_47 : decode cX1_givePlace 47 = .ok (.invokevirtual 38, 3) := by decide +kernel
theorem dX1_givePlace_50 : decode cX1_givePlace 50 = .ok (.return_, 1) := by decide +kernel
theorem dX1_leastWithRoom_0 : decode cX1_leastWithRoom 0 = .ok (.iconst 0, 1) := by decide +kernel
theorem dX1_leastWithRoom_1 : decode cX1_leastWithRoom 1 = .ok (.istore_n 1, 1) := by decide +kernel
theorem dX1_leastWithRoom_2 : decode cX1_leastWithRoom 2 = .ok (.iload_n 1, 1) := by decide +kernel
theorem dX1_leastWithRoom_3 : decode cX1_leastWithRoom 3 = .ok (.sipush 128, 3) := by decide +kernel
theorem dX1_leastWithRoom_6 : decode cX1_leastWithRoom 6 = .ok (.if_icmp .ge 31, 3) := by decide +kernel
theorem dX1_leastWithRoom_9 : decode cX1_leastWithRoom 9 = .ok (.aload_n 0, 1) := by decide +kernel
theorem dX1_leastWithRoom_10 : decode cX1_leastWithRoom 10 = .ok (.getfield 15, 3) := by decide +kernel
theorem dX1_leastWithRoom_13 : decode cX1_leastWithRoom 13 = .ok (.iload_n 1, 1) := by decide +kernel
theorem dX1_leastWithRoom_14 : decode cX1_leastWithRoom 14 = .ok (.iaload, 1) := by decide +kernel
theorem dX1_leastWithRoom_15 : decode cX1_leastWithRoom 15 = .ok (.ifCond .eq 16, 3) := by decide +kernel
theorem dX1_leastWithRoom_18 : decode cX1_leastWithRoom 18 = .ok (.aload_n 0, 1) := by decide +kernel
theorem dX1_leastWithRoom_19 : decode cX1_leastWithRoom 19 = .ok (.getfield 15, 3) := by decide +kernel
theorem dX1_leastWithRoom_22 : decode cX1_leastWithRoom 22 = .ok (.iload_n 1, 1) := by decide +kernel
theorem dX1_leastWithRoom_23 : decode cX1_leastWithRoom 23 = .ok (.iaload, 1) := by decide +kernel
theorem dX1_leastWithRoom_24 : decode cX1_leastWithRoom 24 = .ok (.bipush 15, 2) := by decide +kernel
theorem dX1_leastWithRoom_26 : decode cX1_leastWithRoom 26 = .ok (.if_icmp .eq 5, 3) := by decide +kernel
theorem dX1_leastWithRoom_29 : decode cX1_leastWithRoom 29 = .ok (.iload_n 1, 1) := by decide +kernel
theorem dX1_leastWithRoom_30 : decode cX1_leastWithRoom 30 = .ok (.ireturn, 1) := by decide +kernel
theorem dX1_leastWithRoom_31 : decode cX1_leastWithRoom 31 = .ok (.iinc 1 1, 3) := by decide +kernel
theorem dX1_leastWithRoom_34 : decode cX1_leastWithRoom 34 = .ok (.goto (-32), 3) := by decide +kernel
theorem dX1_leastWithRoom_37 : decode cX1_leastWithRoom 37 = .ok (.iconst (-1), 1) := by decide +kernel
theorem dX1_leastWithRoom_38 : decode cX1_leastWithRoom 38 = .ok (.ireturn, 1) := by decide +kernel
theorem dJ6_bitCount_0f7a4_0 : decode cJ6_bitCount_0f7a4 0 = .ok (.iload_n 0, 1) := by decide +kernel
theorem dJ6_bitCount_0f7a4_1 : decode cJ6_bitCount_0f7a4 1 = .ok (.iload_n 0, 1) := by decide +kernel
theorem dJ6_bitCount_0f7a4_2 : decode cJ6_bitCount_0f7a4 2 = .ok (.iconst 1, 1) := by decide +kernel
theorem dJ6_bitCount_0f7a4_3 : decode cJ6_bitCount_0f7a4 3 = .ok (.iushr, 1) := by decide +kernel
theorem dJ6_bitCount_0f7a4_4 : decode cJ6_bitCount_0f7a4 4 = .ok (.ldc_w 265, 3) := by decide +kernel
theorem dJ6_bitCount_0f7a4_7 : decode cJ6_bitCount_0f7a4 7 = .ok (.iand, 1) := by decide +kernel
theorem dJ6_bitCount_0f7a4_8 : decode cJ6_bitCount_0f7a4 8 = .ok (.isub, 1) := by decide +kernel
theorem dJ6_bitCount_0f7a4_9 : decode cJ6_bitCount_0f7a4 9 = .ok (.istore_n 0, 1) := by decide +kernel
theorem dJ6_bitCount_0f7a4_10 : decode cJ6_bitCount_0f7a4 10 = .ok (.iload_n 0, 1) := by decide +kernel
theorem dJ6_bitCount_0f7a4_11 : decode cJ6_bitCount_0f7a4 11 = .ok (.ldc_w 266, 3) := by decide +kernel
theorem dJ6_bitCount_0f7a4_14 : decode cJ6_bitCount_0f7a4 14 = .ok (.iand, 1) := by decide +kernel
theorem dJ6_bitCount_0f7a4_15 : decode cJ6_bitCount_0f7a4 15 = .ok (.iload_n 0, 1) := by decide +kernel
theorem dJ6_bitCount_0f7a4_16 : decode cJ6_bitCount_0f7a4 16 = .ok (.iconst 2, 1) := by decide +kernel
theorem dJ6_bitCount_0f7a4_17 : decode cJ6_bitCount_0f7a4 17 = .ok (.iushr, 1) := by decide +kernel
theorem dJ6_bitCount_0f7a4_18 : decode cJ6_bitCount_0f7a4 18 = .ok (.ldc_w 266, 3) := by decide +kernel
theorem dJ6_bitCount_0f7a4_21 : decode cJ6_bitCount_0f7a4 21 = .ok (.iand, 1) := by decide +kernel
theorem dJ6_bitCount_0f7a4_22 : decode cJ6_bitCount_0f7a4 22 = .ok (.iadd, 1) := by decide +kernel
theorem dJ6_bitCount_0f7a4_23 : decode cJ6_bitCount_0f7a4 23 = .ok (.istore_n 0, 1) := by decide +kernel
theorem dJ6_bitCount_0f7a4_24 : decode cJ6_bitCount_0f7a4 24 = .ok (.iload_n 0, 1) := by decide +kernel
theorem dJ6_bitCount_0f7a4_25 : decode cJ6_bitCount_0f7a4 25 = .ok (.iload_n 0, 1) := by decide +kernel
theorem dJ6_bitCount_0f7a4_26 : decode cJ6_bitCount_0f7a4 26 = .ok (.iconst 4, 1) := by decide +kernel
theorem dJ6_bitCount_0f7a4_27 : decode cJ6_bitCount_0f7a4 27 = .ok (.iushr, 1) := by decide +kernel
theorem dJ6_bitCount_0f7a4_28 : decode cJ6_bitCount_0f7a4 28 = .ok (.iadd, 1) := by decide +kernel
theorem dJ6_bitCount_0f7a4_29 : decode cJ6_bitCount_0f7a4 29 = .ok (.ldc_w 267, 3) := by decide +kernel
theorem dJ6_bitCount_0f7a4_32 : decode cJ6_bitCount_0f7a4 32 = .ok (.iand, 1) := by decide +kernel
theorem dJ6_bitCount_0f7a4_33 : decode cJ6_bitCount_0f7a4 33 = .ok (.istore_n 0, 1) := by decide +kernel
theorem dJ6_bitCount_0f7a4_34 : decode cJ6_bitCount_0f7a4 34 = .ok (.iload_n 0, 1) := by decide +kernel
theorem dJ6_bitCount_0f7a4_35 : decode cJ6_bitCount_0f7a4 35 = .ok (.iload_n 0, 1) := by decide +kernel
theorem dJ6_bitCount_0f7a4_36 : decode cJ6_bitCount_0f7a4 36 = .ok (.bipush 8, 2) := by decide +kernel
theorem dJ6_bitCount_0f7a4_38 : decode cJ6_bitCount_0f7a4 38 = .ok (.iushr, 1) := by decide +kernel
theorem dJ6_bitCount_0f7a4_39 : decode cJ6_bitCount_0f7a4 39 = .ok (.iadd, 1) := by decide +kernel
theorem dJ6_bitCount_0f7a4_40 : decode cJ6_bitCount_0f7a4 40 = .ok (.istore_n 0, 1) := by decide +kernel
theorem dJ6_bitCount_0f7a4_41 : decode cJ6_bitCount_0f7a4 41 = .ok (.iload_n 0, 1) := by decide +kernel
theorem dJ6_bitCount_0f7a4_42 : decode cJ6_bitCount_0f7a4 42 = .ok (.iload_n 0, 1) := by decide +kernel
theorem dJ6_bitCount_0f7a4_43 : decode cJ6_bitCount_0f7a4 43 = .ok (.bipush 16, 2) := by decide +kernel
theorem dJ6_bitCount_0f7a4_45 : decode cJ6_bitCount_0f7a4 45 = .ok (.iushr, 1) := by decide +kernel
theorem dJ6_bitCount_0f7a4_46 : decode cJ6_bitCount_0f7a4 46 = .ok (.iadd, 1) := by decide +kernel
theorem dJ6_bitCount_0f7a4_47 : decode cJ6_bitCount_0f7a4 47 = .ok (.istore_n 0, 1) := by decide +kernel
theorem dJ6_bitCount_0f7a4_48 : decode cJ6_bitCount_0f7a4 48 = .ok (.iload_n 0, 1) := by decide +kernel
theorem dJ6_bitCount_0f7a4_49 : decode cJ6_bitCount_0f7a4 49 = .ok (.bipush 63, 2) := by decide +kernel
theorem dJ6_bitCount_0f7a4_51 : decode cJ6_bitCount_0f7a4 51 = .ok (.iand, 1) := by decide +kernel
theorem dJ6_bitCount_0f7a4_52 : decode cJ6_bitCount_0f7a4 52 = .ok (.ireturn, 1) := by decide +kernel
end
section
theorem dX2_init_0 : decode cX2_init 0 = .ok (.aload_n 0, 1) := by decide +kernel
theorem dX2_init_1 : decode cX2_init 1 = .ok (.invokespecial 1, 3) := by decide +kernel
theorem dX2_init_4 : decode cX2_init 4 = .ok (.aload_n 0, 1) := by decide +kernel
theorem dX2_init_5 : decode cX2_init 5 = .ok (.new 7, 3) := by decide +kernel
theorem dX2_init_8 : decode cX2_init 8 = .ok (.dup, 1) := by decide +kernel
theorem dX2_init_9 : decode cX2_init 9 = .ok (.invokespecial 9, 3) := by decide +kernel
theorem dX2_init_12 : decode cX2_init 12 = .ok (.putfield 10, 3) := by decide +kernel
theorem dX2_init_15 : decode cX2_init 15 = .ok (.aload_n 0, 1) := by decide +kernel
theorem dX2_init_16 : decode cX2_init 16 = .ok (.new 16, 3) := by decide +kernel
theorem dX2_init_19 : decode cX2_init 19 = .ok (.dup, 1) := by decide +kernel
theorem dX2_init_20 : decode cX2_init 20 = .ok (.aload_n 0, 1) := by decide +kernel
theorem dX2_init_21 : decode cX2_init 21 = .ok (.getfield 10, 3) := by decide +kernel
theorem dX2_init_24 : decode cX2_init 24 = .ok (.invokespecial 18, 3) := by decide +kernel
theorem dX2_init_27 : decode cX2_init 27 = .ok (.putfield 21, 3) := by decide +kernel
theorem dX2_init_30 : decode cX2_init 30 = .ok (.aload_n 0, 1) := by decide +kernel
theorem dX2_init_31 : decode cX2_init 31 = .ok (.new 16, 3) := by decide +kernel
theorem dX2_init_34 : decode cX2_init 34 = .ok (.dup, 1) := by decide +kernel
theorem dX2_init_35 : decode cX2_init 35 = .ok (.aload_n 0, 1) := by decide +kernel
theorem dX2_init_36 : decode cX2_init 36 = .ok (.getfield 10, 3) := by decide +kernel
theorem dX2_init_39 : decode cX2_init 39 = .ok (.invokespecial 18, 3) := by decide +kernel
theorem dX2_init_42 : decode cX2_init 42 = .ok (.putfield 25, 3) := by decide +kernel
theorem dX2_init_45 : decode cX2_init 45 = .ok (.aload_n 0, 1) := by decide +kernel
theorem dX2_init_46 : decode cX2_init 46 = .ok (.sipush 8192, 3) := by decide +kernel
theorem dX2_init_49 : decode cX2_init 49 = .ok (.newarray .int, 2) := by decide +kernel
theorem dX2_init_51 : decode cX2_init 51 = .ok (.putfield 28, 3) := by decide +kernel
theorem dX2_init_54 : decode cX2_init 54 = .ok (.aload_n 0, 1) := by decide +kernel
theorem dX2_init_55 : decode cX2_init 55 = .ok (.sipush 128, 3) := by decide +kernel
theorem dX2_init_58 : decode cX2_init 58 = .ok (.newarray .int, 2) := by decide +kernel
theorem dX2_init_60 : decode cX2_init 60 = .ok (.putfield 32, 3) := by decide +kernel
theorem dX2_init_63 : decode cX2_init 63 = .ok (.aload_n 0, 1) := by decide +kernel
theorem dX2_init_64 : decode cX2_init 64 = .ok (.sipush 128, 3) := by decide +kernel
theorem dX2_init_67 : decode cX2_init 67 = .ok (.newarray .int, 2) := by decide +kernel
theorem dX2_init_69 : decode cX2_init 69 = .ok (.putfield 35, 3) := by decide +kernel
theorem dX2_init_72 : decode cX2_init 72 = .ok (.iconst 0, 1) := by decide +kernel
theorem dX2_init_73 : decode cX2_init 73 = .ok (.istore_n 1, 1) := by decide +kernel
theorem dX2_init_74 : decode cX2_init 74 = .ok (.iload_n 1, 1) := by decide +kernel
theorem dX2_init_75 : decode cX2_init 75 = .ok (.sipush 128, 3) := by decide +kernel
theorem dX2_init_78 : decode cX2_init 78 = .ok (.if_icmp .ge 16, 3) := by decide +kernel
theorem dX2_init_81 : decode cX2_init 81 = .ok (.aload_n 0, 1) := by decide +kernel
theorem dX2_init_82 : decode cX2_init 82 = .ok (.getfield 35, 3) := by decide +kernel
theorem dX2_init_85 : decode cX2_init 85 = .ok (.iload_n 1, 1) := by decide +kernel
theorem dX2_init_86 : decode cX2_init 86 = .ok (.iconst (-1), 1) := by decide +kernel
theorem dX2_init_87 : decode cX2_init 87 = .ok (.iastore, 1) := by decide +kernel
theorem dX2_init_88 : decode cX2_init 88 = .ok (.iinc 1 1, 3) := by decide +kernel
theorem dX2_init_91 : decode cX2_init 91 = .ok (.goto (-17), 3) := by decide +kernel
theorem dX2_init_94 : decode cX2_init 94 = .ok (.aload_n 0, 1) := by decide +kernel
theorem dX2_init_95 : decode cX2_init 95 = .ok (.bipush 16, 2) := by decide +kernel
theorem dX2_init_97 : decode cX2_init 97 = .ok (.newarray .int, 2) := by decide +kernel
theorem dX2_init_99 : decode cX2_init 99 = .ok (.putfield 38, 3) := by decide +kernel
theorem dX2_init_102 : decode cX2_init 102 = .ok (.aload_n 0, 1) := by decide +kernel
theorem dX2_init_103 : decode cX2_init 103 = .ok (.bipush 16, 2) := by decide +kernel
theorem dX2_init_105 : decode cX2_init 105 = .ok (.newarray .int, 2) := by decide +kernel
theorem dX2_init_107 : decode cX2_init 107 = .ok (.putfield 41, 3) := by decide +kernel
theorem dX2_init_110 : decode cX2_init 110 = .ok (.aload_n 0, 1) := by decide +kernel
theorem dX2_init_111 : decode cX2_init 111 = .ok (.bipush 16, 2) := by decide +kernel
theorem dX2_init_113 : decode cX2_init 113 = .ok (.newarray .int, 2) := by decide +kernel
theorem dX2_init_115 : decode cX2_init 115 = .ok (.putfield 44, 3) := by decide +kernel
theorem dX2_init_118 : decode cX2_init 118 = .ok (.aload_n 0, 1) := by decide +kernel
theorem dX2_init_119 : decode cX2_init 119 = .ok (.bipush 16, 2) := by decide +kernel
theorem dX2_init_121 : decode cX2_init 121 = .ok (.newarray .int, 2) := by decide +kernel
theorem dX2_init_123 : decode cX2_init 123 = .ok (.putfield 47, 3) := by decide +kernel
theorem dX2_init_126 : decode cX2_init 126 = .ok (.aload_n 0, 1) := by decide +kernel
theorem dX2_init_127 : decode cX2_init 127 = .ok (.bipush 16, 2) := by decide +kernel
theorem dX2_init_129 : decode cX2_init 129 = .ok (.newarray .int, 2) := by decide +kernel
theorem dX2_init_131 : decode cX2_init 131 = .ok (.putfield 50, 3) := by decide +kernel
theorem dX2_init_134 : decode cX2_init 134 = .ok (.aload_n 0, 1) := by decide +kernel
theorem dX2_init_135 : decode cX2_init 135 = .ok (.bipush 16, 2) := by decide +kernel
theorem dX2_init_137 : decode cX2_init 137 = .ok (.newarray .int, 2) := by decide +kernel
theorem dX2_init_139 : decode cX2_init 139 = .ok (.putfield 53, 3) := by decide +kernel
theorem dX2_init_142 : decode cX2_init 142 = .ok (.iconst 0, 1) := by decide +kernel
theorem dX2_init_143 : decode cX2_init 143 = .ok (.istore_n 1, 1) := by decide +kernel
theorem dX2_init_144 : decode cX2_init 144 = .ok (.iload_n 1, 1) := by decide +kernel
theorem dX2_init_145 : decode cX2_init 145 = .ok (.bipush 16, 2) := by decide +kernel
theorem dX2_init_147 : decode cX2_init 147 = .ok (.if_icmp .ge 23, 3) := by decide +kernel
theorem dX2_init_150 : decode cX2_init 150 = .ok (.aload_n 0, 1) := by decide +kernel
theorem dX2_init_151 : decode cX2_init 151 = .ok (.getfield 38, 3) := by decide +kernel
theorem dX2_init_154 : decode cX2_init 154 = .ok (.iload_n 1, 1) := by decide +kernel
theorem dX2_init_155 : decode cX2_init 155 = .ok (.iconst 0, 1) := by decide +kernel
theorem dX2_init_156 : decode cX2_init 156 = .ok (.iastore, 1) := by decide +kernel
theorem dX2_init_157 : decode cX2_init 157 = .ok (.aload_n 0, 1) := by decide +kernel
theorem dX2_init_158 : decode cX2_init 158 = .ok (.getfield 41, 3) := by decide +kernel
theorem dX2_init_161 : decode cX2_init 161 = .ok (.iload_n 1, 1) := by decide +kernel
theorem dX2_init_162 : decode cX2_init 162 = .ok (.iconst (-1), 1) := by decide +kernel
theorem dX2_init_163 : decode cX2_init 163 = .ok (.iastore, 1) := by decide +kernel
theorem dX2_init_164 : decode cX2_init 164 = .ok (.iinc 1 1, 3) := by decide +kernel
theorem dX2_init_167 : decode cX2_init 167 = .ok (.goto (-23), 3) := by decide +kernel
theorem dX2_init_170 : decode cX2_init 170 = .ok (.return_, 1) := by decide +kernel
theorem dX2_spawn_0 : decode cX2_spawn 0 = .ok (.aload_n 0, 1) := by decide +kernel
theorem dX2_spawn_1 : decode cX2_spawn 1 = .ok (.iconst (-1), 1) := by decide +kernel
theorem dX2_spawn_2 : decode cX2_spawn 2 = .ok (.invokevirtual 56, 3) := by decide +kernel
theorem dX2_spawn_5 : decode cX2_spawn 5 = .ok (.ireturn, 1) := by decide +kernel
theorem dX2_fork_0 : decode cX2_fork 0 = .ok (.aload_n 0, 1) := by decide +kernel
theorem dX2_fork_1 : decode cX2_fork 1 = .ok (.iload_n 1, 1) := by decide +kernel
theorem dX2_fork_2 : decode cX2_fork 2 = .ok (.invokevirtual 60, 3) := by decide +kernel
theorem dX2_fork_5 : decode cX2_fork 5 = .ok (.ifCond .eq 11, 3) := by decide +kernel
theorem dX2_fork_8 : decode cX2_fork 8 = .ok (.aload_n 0, 1) := by decide +kernel
theorem dX2_fork_9 : decode cX2_fork 9 = .ok (.iload_n 1, 1) := by decide +kernel
theorem dX2_fork_10 : decode cX2_fork 10 = .ok (.invokevirtual 56, 3) := by decide +kernel
theorem dX2_fork_13 : decode cX2_fork 13 = .ok (.goto 5, 3) := by decide +kernel
theorem dX2_fork_16 : decode cX2_fork 16 = .ok (.bipush (-2), 2) := by decide +kernel
theorem dX2_fork_18 : decode cX2_fork 18 = .ok (.ireturn, 1) := by decide +kernel
theorem dX2_grow_0 : decode cX2_grow 0 = .ok (.aload_n 0, 1) := by decide +kernel
theorem dX2_grow_1 : decode cX2_grow 1 = .ok (.iload_n 1, 1) := by decide +kernel
theorem dX2_grow_2 : decode cX2_grow 2 = .ok (.invokevirtual 60, 3) := by decide +kernel
theorem dX2_grow_5 : decode cX2_grow 5 = .ok (.ifCond .ne 6, 3) := by decide +kernel
theorem dX2_grow_8 : decode cX2_grow 8 = .ok (.bipush (-2), 2) := by decide +kernel
theorem dX2_grow_10 : decode cX2_grow 10 = .ok (.ireturn, 1) := by decide +kernel
theorem dX2_grow_11 : decode cX2_grow 11 = .ok (.aload_n 0, 1) := by decide +kernel
theorem dX2_grow_12 : decode cX2_grow 12 = .ok (.getfield 47, 3) := by decide +kernel
theorem dX2_grow_15 : decode cX2_grow 15 = .ok (.iload_n 1, 1) := by decide +kernel
theorem dX2_grow_16 : decode cX2_grow 16 = .ok (.iaload, 1) := by decide +kernel
theorem dX2_grow_17 : decode cX2_grow 17 = .ok (.istore_n 3, 1) := by decide +kernel
theorem dX2_grow_18 : decode cX2_grow 18 = .ok (.iload_n 2, 1) := by decide +kernel
theorem dX2_grow_19 : decode cX2_grow 19 = .ok (.iload_n 3, 1) := by decide +kernel
theorem dX2_grow_20 : decode cX2_grow 20 = .ok (.ineg, 1) := by decide +kernel
theorem dX2_grow_21 : decode cX2_grow 21 = .ok (.if_icmp .lt 12, 3) := by decide +kernel
theorem dX2_grow_24 : decode cX2_grow 24 = .ok (.iload_n 2, 1) := by decide +kernel
theorem dX2_grow_25 : decode cX2_grow 25 = .ok (.sipush 256, 3) := by decide +kernel
theorem dX2_grow_28 : decode cX2_grow 28 = .ok (.iload_n 3, 1) := by decide +kernel
theorem dX2_grow_29 : decode cX2_grow 29 = .ok (.isub, 1) := by decide +kernel
theorem dX2_grow_30 : decode cX2_grow 30 = .ok (.if_icmp .le 6, 3) := by decide +kernel
theorem dX2_grow_33 : decode cX2_grow 33 = .ok (.bipush (-2), 2) := by decide +kernel
theorem dX2_grow_35 : decode cX2_grow 35 = .ok (.ireturn, 1) := by decide +kernel
theorem dX2_grow_36 : decode cX2_grow 36 = .ok (.iload_n 3, 1) := by decide +kernel
theorem dX2_grow_37 : decode cX2_grow 37 = .ok (.iload_n 2, 1) := by decide +kernel
theorem dX2_grow_38 : decode cX2_grow 38 = .ok (.iadd, 1) := by decide +kernel
theorem dX2_grow_39 : decode cX2_grow 39 = .ok (.istore 4, 2) := by decide +kernel
theorem dX2_grow_41 : decode cX2_grow 41 = .ok (.iload_n 3, 1) := by decide +kernel
theorem dX2_grow_42 : decode cX2_grow 42 = .ok (.istore 5, 2) := by decide +kernel
theorem dX2_grow_44 : decode cX2_grow 44 = .ok (.iload 5, 2) := by decide +kernel
theorem dX2_grow_46 : decode cX2_grow 46 = .ok (.iload 4, 2) := by decide +kernel
theorem dX2_grow_48 : decode cX2_grow 48 = .ok (.if_icmp .ge 30, 3) := by decide +kernel
theorem dX2_grow_51 : decode cX2_grow 51 = .ok (.aload_n 0, 1) := by decide +kernel
theorem dX2_grow_52 : decode cX2_grow 52 = .ok (.iload_n 1, 1) := by decide +kernel
theorem dX2_grow_53 : decode cX2_grow 53 = .ok (.iload 5, 2) := by decide +kernel
theorem dX2_grow_55 : decode cX2_grow 55 = .ok (.invokevirtual 64, 3) := by decide +kernel
theorem dX2_grow_58 : decode cX2_grow 58 = .ok (.ifCond .ne 14, 3) := by decide +kernel
theorem dX2_grow_61 : decode cX2_grow 61 = .ok (.aload_n 0, 1) := by decide +kernel
theorem dX2_grow_62 : decode cX2_grow 62 = .ok (.iload_n 1, 1) := by decide +kernel
theorem dX2_grow_63 : decode cX2_grow 63 = .ok (.iload_n 3, 1) := by decide +kernel
theorem dX2_grow_64 : decode cX2_grow 64 = .ok (.invokevirtual 68, 3) := by decide +kernel
theorem dX2_grow_67 : decode cX2_grow 67 = .ok (.aload_n 0, 1) := by decide +kernel
theorem dX2_grow_68 : decode cX2_grow 68 = .ok (.invokevirtual 72, 3) := by decide +kernel
theorem dX2_grow_71 : decode cX2_grow 71 = .ok (.ireturn, 1) := by decide +kernel
theorem dX2_grow_72 : decode cX2_grow 72 = .ok (.iinc 5 1, 3) := by decide +kernel
theorem dX2_grow_75 : decode cX2_grow 75 = .ok (.goto (-31), 3) := by decide +kernel
theorem dX2_grow_78 : decode cX2_grow 78 = .ok (.aload_n 0, 1) := by decide +kernel
theorem dX2_grow_79 : decode cX2_grow 79 = .ok (.iload_n 1, 1) := by decide +kernel
theorem dX2_grow_80 : decode cX2_grow 80 = .ok (.iload 4, 2) := by decide +kernel
theorem dX2_grow_82 : decode cX2_grow 82 = .ok (.invokevirtual 68, 3) := by decide +kernel
theorem dX2_grow_85 : decode cX2_grow 85 = .ok (.iload_n 3, 1) := by decide +kernel
theorem dX2_grow_86 : decode cX2_grow 86 = .ok (.ireturn, 1) := by decide +kernel
theorem dX2_load_0 : decode cX2_load 0 = .ok (.aload_n 0, 1) := by decide +kernel
theorem dX2_load_1 : decode cX2_load 1 = .ok (.iload_n 1, 1) := by decide +kernel
theorem dX2_load_2 : decode cX2_load 2 = .ok (.iload_n 2, 1) := by decide +kernel
theorem dX2_load_3 : decode cX2_load 3 = .ok (.invokestatic 76, 3) := by decide +kernel
theorem dX2_load_6 : decode cX2_load 6 = .ok (.invokevirtual 79, 3) := by decide +kernel
theorem dX2_load_9 : decode cX2_load 9 = .ok (.ifCond .ne 5, 3) := by decide +kernel
theorem dX2_load_12 : decode cX2_load 12 = .ok (.iconst 0, 1) := by decide +kernel
theorem dX2_load_13 : decode cX2_load 13 = .ok (.ireturn, 1) := by decide +kernel
theorem dX2_load_14 : decode cX2_load 14 = .ok (.aload_n 0, 1) := by decide +kernel
theorem dX2_load_15 : decode cX2_load 15 = .ok (.aload_n 0, 1) := by decide +kernel
theorem dX2_load_16 : decode cX2_load 16 = .ok (.iload_n 1, 1) := by decide +kernel
theorem dX2_load_17 : decode cX2_load 17 = .ok (.iload_n 2, 1) := by decide +kernel
theorem dX2_load_18 : decode cX2_load 18 = .ok (.invokevirtual 82, 3) := by decide +kernel
theorem dX2_load_21 : decode cX2_load 21 = .ok (.invokevirtual 86, 3) := by decide +kernel
theorem dX2_load_24 : decode cX2_load 24 = .ok (.ireturn, 1) := by decide +kernel
theorem dX2_has_0 : decode cX2_has 0 = .ok (.aload_n 0, 1) := by decide +kernel
theorem dX2_has_1 : decode cX2_has 1 = .ok (.iload_n 1, 1) := by decide +kernel
theorem dX2_has_2 : decode cX2_has 2 = .ok (.iload_n 2, 1) := by decide +kernel
theorem dX2_has_3 : decode cX2_has 3 = .ok (.invokestatic 76, 3) := by decide +kernel
theorem dX2_has_6 : decode cX2_has 6 = .ok (.invokevirtual 79, 3) := by decide +kernel
theorem dX2_has_9 : decode cX2_has 9 = .ok (.ireturn, 1) := by decide +kernel
theorem dX2_store_0 : decode cX2_store 0 = .ok (.aload_n 0, 1) := by decide +kernel
theorem dX2_store_1 : decode cX2_store 1 = .ok (.iload_n 1, 1) := by decide +kernel
theorem dX2_store_2 : decode cX2_store 2 = .ok (.invokevirtual 60, 3) := by decide +kernel
theorem dX2_store_5 : decode cX2_store 5 = .ok (.ifCond .ne 6, 3) := by decide +kernel
theorem dX2_store_8 : decode cX2_store 8 = .ok (.bipush (-2), 2) := by decide +kernel
theorem dX2_store_10 : decode cX2_store 10 = .ok (.ireturn, 1) := by decide +kernel
theorem dX2_store_11 : decode cX2_store 11 = .ok (.aload_n 0, 1) := by decide +kernel
theorem dX2_store_12 : decode cX2_store 12 = .ok (.iload_n 1, 1) := by decide +kernel
theorem dX2_store_13 : decode cX2_store 13 = .ok (.iload_n 2, 1) := by decide +kernel
theorem dX2_store_14 : decode cX2_store 14 = .ok (.invokestatic 76, 3) := by decide +kernel
theorem dX2_store_17 : decode cX2_store 17 = .ok (.invokevirtual 79, 3) := by decide +kernel
theorem dX2_store_20 : decode cX2_store 20 = .ok (.ifCond .ne 6, 3) := by decide +kernel
theorem dX2_store_23 : decode cX2_store 23 = .ok (.bipush (-5), 2) := by decide +kernel
theorem dX2_store_25 : decode cX2_store 25 = .ok (.ireturn, 1) := by decide +kernel
theorem dX2_store_26 : decode cX2_store 26 = .ok (.aload_n 0, 1) := by decide +kernel
theorem dX2_store_27 : decode cX2_store 27 = .ok (.iload_n 1, 1) := by decide +kernel
theorem dX2_store_28 : decode cX2_store 28 = .ok (.iload_n 2, 1) := by decide +kernel
theorem dX2_store_29 : decode cX2_store 29 = .ok (.invokestatic 76, 3) := by decide +kernel
theorem dX2_store_32 : decode cX2_store 32 = .ok (.invokevirtual 89, 3) := by decide +kernel
theorem dX2_store_35 : decode cX2_store 35 = .ok (.ifCond .ne 8, 3) := by decide +kernel
theorem dX2_store_38 : decode cX2_store 38 = .ok (.aload_n 0, 1) := by decide +kernel
theorem dX2_store_39 : decode cX2_store 39 = .ok (.invokevirtual 72, 3) := by decide +kernel
theorem dX2_store_42 : decode cX2_store 42 = .ok (.ireturn, 1) := by decide +kernel
theorem dX2_store_43 : decode cX2_store 43 = .ok (.aload_n 0, 1) := by decide +kernel
theorem dX2_store_44 : decode cX2_store 44 = .ok (.aload_n 0, 1) := by decide +kernel
theorem dX2_store_45 : decode cX2_store 45 = .ok (.iload_n 1, 1) := by decide +kernel
theorem dX2_store_46 : decode cX2_store 46 = .ok (.iload_n 2, 1) := by decide +kernel
theorem dX2_store_47 : decode cX2_store 47 = .ok (.invokevirtual 82, 3) := by decide +kernel
theorem dX2_store_50 : decode cX2_store 50 = .ok (.iload_n 3, 1) := by decide +kernel
theorem dX2_store_51 : decode cX2_store 51 = .ok (.invokevirtual 92, 3) := by decide +kernel
theorem dX2_store_54 : decode cX2_store 54 = .ok (.iconst 0, 1) := by decide +kernel
theorem dX2_store_55 : decode cX2_store 55 = .ok (.ireturn, 1) := by decide +kernel
theorem dX2_exit_0 : decode cX2_exit 0 = .ok (.aload_n 0, 1) := by decide +kernel
theorem dX2_exit_1 : decode cX2_exit 1 = .ok (.iload_n 1, 1) := by decide +kernel
theorem dX2_exit_2 : decode cX2_exit 2 = .ok (.invokevirtual 60, 3) := by decide +kernel
theorem dX2_exit_5 : decode cX2_exit 5 = .ok (.ifCond .ne 6, 3) := by decide +kernel
theorem dX2_exit_8 : decode cX2_exit 8 = .ok (.bipush (-2), 2) := by decide +kernel
theorem dX2_exit_10 : decode cX2_exit 10 = .ok (.ireturn, 1) := by decide +kernel
theorem dX2_exit_11 : decode cX2_exit 11 = .ok (.aload_n 0, 1) := by decide +kernel
theorem dX2_exit_12 : decode cX2_exit 12 = .ok (.iload_n 1, 1) := by decide +kernel
theorem dX2_exit_13 : decode cX2_exit 13 = .ok (.invokevirtual 95, 3) := by decide +kernel
theorem dX2_exit_16 : decode cX2_exit 16 = .ok (.aload_n 0, 1) := by decide +kernel
theorem dX2_exit_17 : decode cX2_exit 17 = .ok (.iload_n 1, 1) := by decide +kernel
theorem dX2_exit_18 : decode cX2_exit 18 = .ok (.iconst 0, 1) := by decide +kernel
theorem dX2_exit_19 : decode cX2_exit 19 = .ok (.invokevirtual 68, 3) := by decide +kernel
theorem dX2_exit_22 : decode cX2_exit 22 = .ok (.aload_n 0, 1) := by decide +kernel
theorem dX2_exit_23 : decode cX2_exit 23 = .ok (.iload_n 1, 1) := by decide +kernel
theorem dX2_exit_24 : decode cX2_exit 24 = .ok (.invokevirtual 99, 3) := by decide +kernel
theorem dX2_exit_27 : decode cX2_exit 27 = .ok (.aload_n 0, 1) := by decide +kernel
theorem dX2_exit_28 : decode cX2_exit 28 = .ok (.getfield 41, 3) := by decide +kernel
theorem dX2_exit_31 : decode cX2_exit 31 = .ok (.iload_n 1, 1) := by decide +kernel
theorem dX2_exit_32 : decode cX2_exit 32 = .ok (.iaload, 1) := by decide +kernel
theorem dX2_exit_33 : decode cX2_exit 33 = .ok (.iconst (-1), 1) := by decide +kernel
theorem dX2_exit_34 : decode cX2_exit 34 = .ok (.if_icmp .ne 11, 3) := by decide +kernel
theorem dX2_exit_37 : decode cX2_exit 37 = .ok (.aload_n 0, 1) := by decide +kernel
theorem dX2_exit_38 : decode cX2_exit 38 = .ok (.iload_n 1, 1) := by decide +kernel
theorem dX2_exit_39 : decode cX2_exit 39 = .ok (.invokevirtual 102, 3) := by decide +kernel
theorem dX2_exit_42 : decode cX2_exit 42 = .ok (.goto 17, 3) := by decide +kernel
theorem dX2_exit_45 : decode cX2_exit 45 = .ok (.aload_n 0, 1) := by decide +kernel
theorem dX2_exit_46 : decode cX2_exit 46 = .ok (.getfield 38, 3) := by decide +kernel
theorem dX2_exit_49 : decode cX2_exit 49 = .ok (.iload_n 1, 1) := by decide +kernel
theorem dX2_exit_50 : decode cX2_exit 50 = .ok (.iconst 2, 1) := by decide +kernel
theorem dX2_exit_51 : decode cX2_exit 51 = .ok (.iastore, 1) := by decide +kernel
theorem dX2_exit_52 : decode cX2_exit 52 = .ok (.aload_n 0, 1) := by decide +kernel
theorem dX2_exit_53 : decode cX2_exit 53 = .ok (.getfield 44, 3) := by decide +kernel
theorem dX2_exit_56 : decode cX2_exit 56 = .ok (.iload_n 1, 1) := by decide +kernel
theorem dX2_exit_57 : decode cX2_exit 57 = .ok (.iload_n 2, 1) := by decide +kernel
theorem dX2_exit_58 : decode cX2_exit 58 = .ok (.iastore, 1) := by decide +kernel
theorem dX2_exit_59 : decode cX2_exit 59 = .ok (.iconst 0, 1) := by decide +kernel
theorem dX2_exit_60 : decode cX2_exit 60 = .ok (.ireturn, 1) := by decide +kernel
theorem dX2_reap_0 : decode cX2_reap 0 = .ok (.aload_n 0, 1) := by decide +kernel
theorem dX2_reap_1 : decode cX2_reap 1 = .ok (.iload_n 1, 1) := by decide +kernel
theorem dX2_reap_2 : decode cX2_reap 2 = .ok (.invokevirtual 60, 3) := by decide +kernel
theorem dX2_reap_5 : decode cX2_reap 5 = .ok (.ifCond .ne 6, 3) := by decide +kernel
theorem dX2_reap_8 : decode cX2_reap 8 = .ok (.bipush (-2), 2) := by decide +kernel
theorem dX2_reap_10 : decode cX2_reap 10 = .ok (.ireturn, 1) := by decide +kernel
theorem dX2_reap_11 : decode cX2_reap 11 = .ok (.aload_n 0, 1) := by decide +kernel
theorem dX2_reap_12 : decode cX2_reap 12 = .ok (.iload_n 1, 1) := by decide +kernel
theorem dX2_reap_13 : decode cX2_reap 13 = .ok (.invokevirtual 105, 3) := by decide +kernel
theorem dX2_reap_16 : decode cX2_reap 16 = .ok (.ifCond .ne 6, 3) := by decide +kernel
theorem dX2_reap_19 : decode cX2_reap 19 = .ok (.bipush (-6), 2) := by decide +kernel
theorem dX2_reap_21 : decode cX2_reap 21 = .ok (.ireturn, 1) := by decide +kernel
theorem dX2_reap_22 : decode cX2_reap 22 = .ok (.iconst 0, 1) := by decide +kernel
theorem dX2_reap_23 : decode cX2_reap 23 = .ok (.istore_n 2, 1) := by decide +kernel
theorem dX2_reap_24 : decode cX2_reap 24 = .ok (.iload_n 2, 1) := by decide +kernel
theorem dX2_reap_25 : decode cX2_reap 25 = .ok (.bipush 16, 2) := by decide +kernel
theorem dX2_reap_27 : decode cX2_reap 27 = .ok (.if_icmp .ge 51, 3) := by decide +kernel
theorem dX2_reap_30 : decode cX2_reap 30 = .ok (.aload_n 0, 1) := by decide +kernel
theorem dX2_reap_31 : decode cX2_reap 31 = .ok (.getfield 41, 3) := by decide +kernel
theorem dX2_reap_34 : decode cX2_reap 34 = .ok (.iload_n 2, 1) := by decide +kernel
theorem dX2_reap_35 : decode cX2_reap 35 = .ok (.iaload, 1) := by decide +kernel
theorem dX2_reap_36 : decode cX2_reap 36 = .ok (.iload_n 1, 1) := by decide +kernel
theorem dX2_reap_37 : decode cX2_reap 37 = .ok (.if_icmp .ne 35, 3) := by decide +kernel
theorem dX2_reap_40 : decode cX2_reap 40 = .ok (.aload_n 0, 1) := by decide +kernel
theorem dX2_reap_41 : decode cX2_reap 41 = .ok (.getfield 38, 3) := by decide +kernel
theorem dX2_reap_44 : decode cX2_reap 44 = .ok (.iload_n 2, 1) := by decide +kernel
theorem dX2_reap_45 : decode cX2_reap 45 = .ok (.iaload, 1) := by decide +kernel
theorem dX2_reap_46 : decode cX2_reap 46 = .ok (.iconst 2, 1) := by decide +kernel
theorem dX2_reap_47 : decode cX2_reap 47 = .ok (.if_icmp .ne 25, 3) := by decide +kernel
theorem dX2_reap_50 : decode cX2_reap 50 = .ok (.aload_n 0, 1) := by decide +kernel
theorem dX2_reap_51 : decode cX2_reap 51 = .ok (.iload_n 2, 1) := by decide +kernel
theorem dX2_reap_52 : decode cX2_reap 52 = .ok (.invokevirtual 102, 3) := by decide +kernel
theorem dX2_reap_55 : decode cX2_reap 55 = .ok (.sipush 256, 3) := by decide +kernel
theorem dX2_reap_58 : decode cX2_reap 58 = .ok (.iload_n 2, 1) := by decide +kernel
theorem dX2_reap_59 : decode cX2_reap 59 = .ok (.imul, 1) := by decide +kernel
theorem dX2_reap_60 : decode cX2_reap 60 = .ok (.aload_n 0, 1) := by decide +kernel
theorem dX2_reap_61 : decode cX2_reap 61 = .ok (.getfield 44, 3) := by decide +kernel
theorem dX2_reap_64 : decode cX2_reap 64 = .ok (.iload_n 2, 1) := by decide +kernel
theorem dX2_reap_65 : decode cX2_reap 65 = .ok (.iaload, 1) := by decide +kernel
theorem dX2_reap_66 : decode cX2_reap 66 = .ok (.sipush 255, 3) := by decide +kernel
theorem dX2_reap_69 : decode cX2_reap 69 = .ok (.iand, 1) := by decide +kernel
theorem dX2_reap_70 : decode cX2_reap 70 = .ok (.iadd, 1) := by decide +kernel
theorem dX2_reap_71 : decode cX2_reap 71 = .ok (.ireturn, 1) := by decide +kernel
theorem dX2_reap_72 : decode cX2_reap 72 = .ok (.iinc 2 1, 3) := by decide +kernel
theorem dX2_reap_75 : decode cX2_reap 75 = .ok (.goto (-51), 3) := by decide +kernel
theorem dX2_reap_78 : decode cX2_reap 78 = .ok (.bipush (-7), 2) := by decide +kernel
theorem dX2_reap_80 : decode cX2_reap 80 = .ok (.ireturn, 1) := by decide +kernel
theorem dX2_tick_0 : decode cX2_tick 0 = .ok (.aload_n 0, 1) := by decide +kernel
theorem dX2_tick_1 : decode cX2_tick 1 = .ok (.getfield 108, 3) := by decide +kernel
theorem dX2_tick_4 : decode cX2_tick 4 = .ok (.ifCond .ne 5, 3) := by decide +kernel
theorem dX2_tick_7 : decode cX2_tick 7 = .ok (.iconst (-1), 1) := by decide +kernel
theorem dX2_tick_8 : decode cX2_tick 8 = .ok (.ireturn, 1) := by decide +kernel
theorem dX2_tick_9 : decode cX2_tick 9 = .ok (.aload_n 0, 1) := by decide +kernel
theorem dX2_tick_10 : decode cX2_tick 10 = .ok (.getfield 53, 3) := by decide +kernel
theorem dX2_tick_13 : decode cX2_tick 13 = .ok (.iconst 0, 1) := by decide +kernel
theorem dX2_tick_14 : decode cX2_tick 14 = .ok (.iaload, 1) := by decide +kernel
theorem dX2_tick_15 : decode cX2_tick 15 = .ok (.istore_n 1, 1) := by decide +kernel
theorem dX2_tick_16 : decode cX2_tick 16 = .ok (.aload_n 0, 1) := by decide +kernel
theorem dX2_tick_17 : decode cX2_tick 17 = .ok (.iload_n 1, 1) := by decide +kernel
theorem dX2_tick_18 : decode cX2_tick 18 = .ok (.invokevirtual 95, 3) := by decide +kernel
theorem dX2_tick_21 : decode cX2_tick 21 = .ok (.aload_n 0, 1) := by decide +kernel
theorem dX2_tick_22 : decode cX2_tick 22 = .ok (.iload_n 1, 1) := by decide +kernel
theorem dX2_tick_23 : decode cX2_tick 23 = .ok (.invokevirtual 112, 3) := by decide +kernel
theorem dX2_tick_26 : decode cX2_tick 26 = .ok (.aload_n 0, 1) := by decide +kernel
theorem dX2_tick_27 : decode cX2_tick 27 = .ok (.dup, 1) := by decide +kernel
theorem dX2_tick_28 : decode cX2_tick 28 = .ok (.getfield 115, 3) := by decide +kernel
theorem dX2_tick_31 : decode cX2_tick 31 = .ok (.iconst 1, 1) := by decide +kernel
theorem dX2_tick_32 : decode cX2_tick 32 = .ok (.iadd, 1) := by decide +kernel
theorem dX2_tick_33 : decode cX2_tick 33 = .ok (.putfield 115, 3) := by decide +kernel
theorem dX2_tick_36 : decode cX2_tick 36 = .ok (.aload_n 0, 1) := by decide +kernel
theorem dX2_tick_37 : decode cX2_tick 37 = .ok (.getfield 53, 3) := by decide +kernel
theorem dX2_tick_40 : decode cX2_tick 40 = .ok (.iconst 0, 1) := by decide +kernel
theorem dX2_tick_41 : decode cX2_tick 41 = .ok (.iaload, 1) := by decide +kernel
theorem dX2_tick_42 : decode cX2_tick 42 = .ok (.ireturn, 1) := by decide +kernel
theorem dX2_current_0 : decode cX2_current 0 = .ok (.aload_n 0, 1) := by decide +kernel
theorem dX2_current_1 : decode cX2_current 1 = .ok (.getfield 108, 3) := by decide +kernel
theorem dX2_current_4 : decode cX2_current 4 = .ok (.ifCond .ne 7, 3) := by decide +kernel
theorem dX2_current_7 : decode cX2_current 7 = .ok (.iconst (-1), 1) := by decide +kernel
theorem dX2_current_8 : decode cX2_current 8 = .ok (.goto 9, 3) := by decide +kernel
theorem dX2_current_11 : decode cX2_current 11 = .ok (.aload_n 0, 1) := by decide +kernel
theorem dX2_current_12 : decode cX2_current 12 = .ok (.getfield 53, 3) := by decide +kernel
theorem dX2_current_15 : decode cX2_current 15 = .ok (.iconst 0, 1) := by decide +kernel
theorem dX2_current_16 : decode cX2_current 16 = .ok (.iaload, 1) := by decide +kernel
theorem dX2_current_17 : decode cX2_current 17 = .ok (.ireturn, 1) := by decide +kernel
theorem dX2_block_0 : decode cX2_block 0 = .ok (.iload_n 1, 1) := by decide +kernel
theorem dX2_block_1 : decode cX2_block 1 = .ok (.invokestatic 118, 3) := by decide +kernel
theorem dX2_block_4 : decode cX2_block 4 = .ok (.ifCond .ne 6, 3) := by decide +kernel
theorem dX2_block_7 : decode cX2_block 7 = .ok (.bipush (-2), 2) := by decide +kernel
theorem dX2_block_9 : decode cX2_block 9 = .ok (.ireturn, 1) := by decide +kernel
theorem dX2_block_10 : decode cX2_block 10 = .ok (.aload_n 0, 1) := by decide +kernel
theorem dX2_block_11 : decode cX2_block 11 = .ok (.getfield 10, 3) := by decide +kernel
theorem dX2_block_14 : decode cX2_block 14 = .ok (.iload_n 1, 1) := by decide +kernel
theorem dX2_block_15 : decode cX2_block 15 = .ok (.invokevirtual 121, 3) := by decide +kernel
theorem dX2_block_18 : decode cX2_block 18 = .ok (.istore_n 2, 1) := by decide +kernel
theorem dX2_block_19 : decode cX2_block 19 = .ok (.iload_n 2, 1) := by decide +kernel
theorem dX2_block_20 : decode cX2_block 20 = .ok (.invokestatic 124, 3) := by decide +kernel
theorem dX2_block_23 : decode cX2_block 23 = .ok (.ifCond .ne 8, 3) := by decide +kernel
theorem dX2_block_26 : decode cX2_block 26 = .ok (.aload_n 0, 1) := by decide +kernel
theorem dX2_block_27 : decode cX2_block 27 = .ok (.invokevirtual 72, 3) := by decide +kernel
theorem dX2_block_30 : decode cX2_block 30 = .ok (.ireturn, 1) := by decide +kernel
theorem dX2_block_31 : decode cX2_block 31 = .ok (.aload_n 0, 1) := by decide +kernel
theorem dX2_block_32 : decode cX2_block 32 = .ok (.getfield 35, 3) := by decide +kernel
theorem dX2_block_35 : decode cX2_block 35 = .ok (.iload_n 2, 1) := by decide +kernel
theorem dX2_block_36 : decode cX2_block 36 = .ok (.iload_n 1, 1) := by decide +kernel
theorem dX2_block_37 : decode cX2_block 37 = .ok (.iastore, 1) := by decide +kernel
theorem dX2_block_38 : decode cX2_block 38 = .ok (.iload_n 2, 1) := by decide +kernel
theorem dX2_block_39 : decode cX2_block 39 = .ok (.ireturn, 1) := by decide +kernel
theorem dX2_unblock_0 : decode cX2_unblock 0 = .ok (.iload_n 1, 1) := by decide +kernel
theorem dX2_unblock_1 : decode cX2_unblock 1 = .ok (.invokestatic 124, 3) := by decide +kernel
theorem dX2_unblock_4 : decode cX2_unblock 4 = .ok (.ifCond .eq 13, 3) := by decide +kernel
theorem dX2_unblock_7 : decode cX2_unblock 7 = .ok (.aload_n 0, 1) := by decide +kernel
theorem dX2_unblock_8 : decode cX2_unblock 8 = .ok (.getfield 35, 3) := by decide +kernel
theorem dX2_unblock_11 : decode cX2_unblock 11 = .ok (.iload_n 1, 1) := by decide +kernel
theorem dX2_unblock_12 : decode cX2_unblock 12 = .ok (.iaload, 1) := by decide +kernel
theorem dX2_unblock_13 : decode cX2_unblock 13 = .ok (.iconst (-1), 1) := by decide +kernel
theorem dX2_unblock_14 : decode cX2_unblock 14 = .ok (.if_icmp .ne 6, 3) := by decide +kernel
theorem dX2_unblock_17 : decode cX2_unblock 17 = .ok (.bipush (-2), 2) := by decide +kernel
theorem dX2_unblock_19 : decode cX2_unblock 19 = .ok (.ireturn, 1) := by decide +kernel
theorem dX2_unblock_20 : decode cX2_unblock 20 = .ok (.aload_n 0, 1) := by decide +kernel
theorem dX2_unblock_21 : decode cX2_unblock 21 = .ok (.getfield 35, 3) := by decide +kernel
theorem dX2_unblock_24 : decode cX2_unblock 24 = .ok (.iload_n 1, 1) := by decide +kernel
theorem dX2_unblock_25 : decode cX2_unblock 25 = .ok (.iaload, 1) := by decide +kernel
theorem dX2_unblock_26 : decode cX2_unblock 26 = .ok (.istore_n 2, 1) := by decide +kernel
theorem dX2_unblock_27 : decode cX2_unblock 27 = .ok (.aload_n 0, 1) := by decide +kernel
theorem dX2_unblock_28 : decode cX2_unblock 28 = .ok (.getfield 35, 3) := by decide +kernel
theorem dX2_unblock_31 : decode cX2_unblock 31 = .ok (.iload_n 1, 1) := by decide +kernel
theorem dX2_unblock_32 : decode cX2_unblock 32 = .ok (.iconst (-1), 1) := by decide +kernel
theorem dX2_unblock_33 : decode cX2_unblock 33 = .ok (.iastore, 1) := by decide +kernel
theorem dX2_unblock_34 : decode cX2_unblock 34 = .ok (.aload_n 0, 1) := by decide +kernel
theorem dX2_unblock_35 : decode cX2_unblock 35 = .ok (.getfield 10, 3) := by decide +kernel
theorem dX2_unblock_38 : decode cX2_unblock 38 = .ok (.iload_n 1, 1) := by decide +kernel
theorem dX2_unblock_39 : decode cX2_unblock 39 = .ok (.iload_n 2, 1) := by decide +kernel
theorem dX2_unblock_40 : decode cX2_unblock 40 = .ok (.invokevirtual 127, 3) := by decide +kernel
theorem dX2_unblock_43 : decode cX2_unblock 43 = .ok (.iload_n 2, 1) := by decide +kernel
theorem dX2_unblock_44 : decode cX2_unblock 44 = .ok (.ireturn, 1) := by decide +kernel
theorem dX2_freeFrames_0 : decode cX2_freeFrames 0 = .ok (.iconst 0, 1) := by decide +kernel
theorem dX2_freeFrames_1 : decode cX2_freeFrames 1 = .ok (.istore_n 1, 1) := by decide +kernel
theorem dX2_freeFrames_2 : decode cX2_freeFrames 2 = .ok (.iconst 0, 1) := by decide +kernel
theorem dX2_freeFrames_3 : decode cX2_freeFrames 3 = .ok (.istore_n 2, 1) := by decide +kernel
theorem dX2_freeFrames_4 : decode cX2_freeFrames 4 = .ok (.iload_n 2, 1) := by decide +kernel
theorem dX2_freeFrames_5 : decode cX2_freeFrames 5 = .ok (.bipush 7, 2) := by decide +kernel
theorem dX2_freeFrames_7 : decode cX2_freeFrames 7 = .ok (.if_icmp .gt 22, 3) := by decide +kernel
theorem dX2_freeFrames_10 : decode cX2_freeFrames 10 = .ok (.iload_n 1, 1) := by decide +kernel
theorem dX2_freeFrames_11 : decode cX2_freeFrames 11 = .ok (.aload_n 0, 1) := by decide +kernel
theorem dX2_freeFrames_12 : decode cX2_freeFrames 12 = .ok (.getfield 10, 3) := by decide +kernel
theorem dX2_freeFrames_15 : decode cX2_freeFrames 15 = .ok (.iload_n 2, 1) := by decide +kernel
theorem dX2_freeFrames_16 : decode cX2_freeFrames 16 = .ok (.invokevirtual 130, 3) := by decide +kernel
theorem dX2_freeFrames_19 : decode cX2_freeFrames 19 = .ok (.iload_n 2, 1) := by decide +kernel
theorem dX2_freeFrames_20 : decode cX2_freeFrames 20 = .ok (.ishl, 1) := by decide +kernel
theorem dX2_freeFrames_21 : decode cX2_freeFrames 21 = .ok (.iadd, 1) := by decide +kernel
theorem dX2_freeFrames_22 : decode cX2_freeFrames 22 = .ok (.istore_n 1, 1) := by decide +kernel
theorem dX2_freeFrames_23 : decode cX2_freeFrames 23 = .ok (.iinc 2 1, 3) := by decide +kernel
theorem dX2_freeFrames_26 : decode cX2_freeFrames 26 = .ok (.goto (-22), 3) := by decide +kernel
theorem dX2_freeFrames_29 : decode cX2_freeFrames 29 = .ok (.iload_n 1, 1) := by decide +kernel
theorem dX2_freeFrames_30 : decode cX2_freeFrames 30 = .ok (.ireturn, 1) := by decide +kernel
theorem dX2_free_0 : decode cX2_free 0 = .ok (.iload_n 1, 1) := by decide +kernel
theorem dX2_free_1 : decode cX2_free 1 = .ok (.invokestatic 118, 3) := by decide +kernel
theorem dX2_free_4 : decode cX2_free 4 = .ok (.ifCond .ne 6, 3) := by decide +kernel
theorem dX2_free_7 : decode cX2_free 7 = .ok (.bipush (-2), 2) := by decide +kernel
theorem dX2_free_9 : decode cX2_free 9 = .ok (.ireturn, 1) := by decide +kernel
theorem dX2_free_10 : decode cX2_free 10 = .ok (.iload_n 2, 1) := by decide +kernel
theorem dX2_free_11 : decode cX2_free 11 = .ok (.lookupswitch 43 #[(0, 25), (1, 34)], 25) := by decide +kernel
theorem dX2_free_36 : decode cX2_free 36 = .ok (.aload_n 0, 1) := by decide +kernel
theorem dX2_free_37 : decode cX2_free 37 = .ok (.getfield 10, 3) := by decide +kernel
theorem dX2_free_40 : decode cX2_free 40 = .ok (.iload_n 1, 1) := by decide +kernel
theorem dX2_free_41 : decode cX2_free 41 = .ok (.invokevirtual 130, 3) := by decide +kernel
theorem dX2_free_44 : decode cX2_free 44 = .ok (.ireturn, 1) := by decide +kernel
theorem dX2_free_45 : decode cX2_free 45 = .ok (.aload_n 0, 1) := by decide +kernel
theorem dX2_free_46 : decode cX2_free 46 = .ok (.getfield 10, 3) := by decide +kernel
theorem dX2_free_49 : decode cX2_free 49 = .ok (.iload_n 1, 1) := by decide +kernel
theorem dX2_free_50 : decode cX2_free 50 = .ok (.invokevirtual 133, 3) := by decide +kernel
theorem dX2_free_53 : decode cX2_free 53 = .ok (.ireturn, 1) := by decide +kernel
theorem dX2_free_54 : decode cX2_free 54 = .ok (.bipush (-2), 2) := by decide +kernel
theorem dX2_free_56 : decode cX2_free 56 = .ok (.ireturn, 1) := by decide +kernel
theorem dX2_frame_0 : decode cX2_frame 0 = .ok (.aload_n 0, 1) := by decide +kernel
theorem dX2_frame_1 : decode cX2_frame 1 = .ok (.iload_n 1, 1) := by decide +kernel
theorem dX2_frame_2 : decode cX2_frame 2 = .ok (.iload_n 2, 1) := by decide +kernel
theorem dX2_frame_3 : decode cX2_frame 3 = .ok (.invokevirtual 136, 3) := by decide +kernel
theorem dX2_frame_6 : decode cX2_frame 6 = .ok (.ireturn, 1) := by decide +kernel
theorem dX2_about_0 : decode cX2_about 0 = .ok (.iload_n 1, 1) := by decide +kernel
theorem dX2_about_1 : decode cX2_about 1 = .ok (.invokestatic 124, 3) := by decide +kernel
theorem dX2_about_4 : decode cX2_about 4 = .ok (.ifCond .ne 6, 3) := by decide +kernel
theorem dX2_about_7 : decode cX2_about 7 = .ok (.bipush (-2), 2) := by decide +kernel
theorem dX2_about_9 : decode cX2_about 9 = .ok (.ireturn, 1) := by decide +kernel
theorem dX2_about_10 : decode cX2_about 10 = .ok (.iload_n 2, 1) := by decide +kernel
theorem dX2_about_11 : decode cX2_about 11 = .ok (.lookupswitch 56 #[(0, 25), (1, 31)], 25) := by decide +kernel
theorem dX2_about_36 : decode cX2_about 36 = .ok (.aload_n 0, 1) := by decide +kernel
theorem dX2_about_37 : decode cX2_about 37 = .ok (.iload_n 1, 1) := by decide +kernel
theorem dX2_about_38 : decode cX2_about 38 = .ok (.invokevirtual 139, 3) := by decide +kernel
theorem dX2_about_41 : decode cX2_about 41 = .ok (.ireturn, 1) := by decide +kernel
theorem dX2_about_42 : decode cX2_about 42 = .ok (.aload_n 0, 1) := by decide +kernel
theorem dX2_about_43 : decode cX2_about 43 = .ok (.getfield 21, 3) := by decide +kernel
theorem dX2_about_46 : decode cX2_about 46 = .ok (.iload_n 1, 1) := by decide +kernel
theorem dX2_about_47 : decode cX2_about 47 = .ok (.invokevirtual 142, 3) := by decide +kernel
theorem dX2_about_50 : decode cX2_about 50 = .ok (.aload_n 0, 1) := by decide +kernel
theorem dX2_about_51 : decode cX2_about 51 = .ok (.getfield 25, 3) := by decide +kernel
theorem dX2_about_54 : decode cX2_about 54 = .ok (.iload_n 1, 1) := by decide +kernel
theorem dX2_about_55 : decode cX2_about 55 = .ok (.invokevirtual 142, 3) := by decide +kernel
theorem dX2_about_58 : decode cX2_about 58 = .ok (.iadd, 1) := by decide +kernel
theorem dX2_about_59 : decode cX2_about 59 = .ok (.aload_n 0, 1) := by decide +kernel
theorem dX2_about_60 : decode cX2_about 60 = .ok (.getfield 32, 3) := by decide +kernel
theorem dX2_about_63 : decode cX2_about 63 = .ok (.iload_n 1, 1) := by decide +kernel
theorem dX2_about_64 : decode cX2_about 64 = .ok (.iaload, 1) := by decide +kernel
theorem dX2_about_65 : decode cX2_about 65 = .ok (.iadd, 1) := by decide +kernel
theorem dX2_about_66 : decode cX2_about 66 = .ok (.ireturn, 1) := by decide +kernel
theorem dX2_about_67 : decode cX2_about 67 = .ok (.bipush (-2), 2) := by decide +kernel
theorem dX2_about_69 : decode cX2_about 69 = .ok (.ireturn, 1) := by decide +kernel
theorem dX2_process_0 : decode cX2_process 0 = .ok (.iload_n 1, 1) := by decide +kernel
theorem dX2_process_1 : decode cX2_process 1 = .ok (.invokestatic 145, 3) := by decide +kernel
theorem dX2_process_4 : decode cX2_process 4 = .ok (.ifCond .ne 6, 3) := by decide +kernel
theorem dX2_process_7 : decode cX2_process 7 = .ok (.bipush (-2), 2) := by decide +kernel
theorem dX2_process_9 : decode cX2_process 9 = .ok (.ireturn, 1) := by decide +kernel
theorem dX2_process_10 : decode cX2_process 10 = .ok (.iload_n 2, 1) := by decide +kernel
theorem dX2_process_11 : decode cX2_process 11 = .ok (.tableswitch 66 0 4 #[33, 40, 47, 54, 60], 33) := by decide +kernel
theorem dX2_process_44 : decode cX2_process 44 = .ok (.aload_n 0, 1) := by decide +kernel
theorem dX2_process_45 : decode cX2_process 45 = .ok (.getfield 38, 3) := by decide +kernel
theorem dX2_process_48 : decode cX2_process 48 = .ok (.iload_n 1, 1) := by decide +kernel
theorem dX2_process_49 : decode cX2_process 49 = .ok (.iaload, 1) := by decide +kernel
theorem dX2_process_50 : decode cX2_process 50 = .ok (.ireturn, 1) := by decide +kernel
theorem dX2_process_51 : decode cX2_process 51 = .ok (.aload_n 0, 1) := by decide +kernel
theorem dX2_process_52 : decode cX2_process 52 = .ok (.getfield 47, 3) := by decide +kernel
theorem dX2_process_55 : decode cX2_process 55 = .ok (.iload_n 1, 1) := by decide +kernel
theorem dX2_process_56 : decode cX2_process 56 = .ok (.iaload, 1) := by decide +kernel
theorem dX2_process_57 : decode cX2_process 57 = .ok (.ireturn, 1) := by decide +kernel
theorem dX2_process_58 : decode cX2_process 58 = .ok (.aload_n 0, 1) := by decide +kernel
theorem dX2_process_59 : decode cX2_process 59 = .ok (.getfield 41, 3) := by decide +kernel
theorem dX2_process_62 : decode cX2_process 62 = .ok (.iload_n 1, 1) := by decide +kernel
theorem dX2_process_63 : decode cX2_process 63 = .ok (.iaload, 1) := by decide +kernel
theorem dX2_process_64 : decode cX2_process 64 = .ok (.ireturn, 1) := by decide +kernel
theorem dX2_process_65 : decode cX2_process 65 = .ok (.aload_n 0, 1) := by decide +kernel
theorem dX2_process_66 : decode cX2_process 66 = .ok (.iload_n 1, 1) := by decide +kernel
theorem dX2_process_67 : decode cX2_process 67 = .ok (.invokevirtual 105, 3) := by decide +kernel
theorem dX2_process_70 : decode cX2_process 70 = .ok (.ireturn, 1) := by decide +kernel
theorem dX2_process_71 : decode cX2_process 71 = .ok (.aload_n 0, 1) := by decide +kernel
theorem dX2_process_72 : decode cX2_process 72 = .ok (.iload_n 1, 1) := by decide +kernel
theorem dX2_process_73 : decode cX2_process 73 = .ok (.invokevirtual 148, 3) := by decide +kernel
theorem dX2_process_76 : decode cX2_process 76 = .ok (.ireturn, 1) := by decide +kernel
theorem dX2_process_77 : decode cX2_process 77 = .ok (.bipush (-2), 2) := by decide +kernel
theorem dX2_process_79 : decode cX2_process 79 = .ok (.ireturn, 1) := by decide +kernel
theorem dX2_told_0 : decode cX2_told 0 = .ok (.iload_n 1, 1) := by decide +kernel
theorem dX2_told_1 : decode cX2_told 1 = .ok (.tableswitch 62 0 4 #[35, 41, 47, 52, 57], 35) := by decide +kernel
theorem dX2_told_36 : decode cX2_told 36 = .ok (.aload_n 0, 1) := by decide +kernel
theorem dX2_told_37 : decode cX2_told 37 = .ok (.iconst 1, 1) := by decide +kernel
theorem dX2_told_38 : decode cX2_told 38 = .ok (.invokevirtual 151, 3) := by decide +kernel
theorem dX2_told_41 : decode cX2_told 41 = .ok (.ireturn, 1) := by decide +kernel
theorem dX2_told_42 : decode cX2_told 42 = .ok (.aload_n 0, 1) := by decide +kernel
theorem dX2_told_43 : decode cX2_told 43 = .ok (.iconst 2, 1) := by decide +kernel
theorem dX2_told_44 : decode cX2_told 44 = .ok (.invokevirtual 151, 3) := by decide +kernel
theorem dX2_told_47 : decode cX2_told 47 = .ok (.ireturn, 1) := by decide +kernel
theorem dX2_told_48 : decode cX2_told 48 = .ok (.aload_n 0, 1) := by decide +kernel
theorem dX2_told_49 : decode cX2_told 49 = .ok (.getfield 154, 3) := by decide +kernel
theorem dX2_told_52 : decode cX2_told 52 = .ok (.ireturn, 1) := by decide +kernel
theorem dX2_told_53 : decode cX2_told 53 = .ok (.aload_n 0, 1) := by decide +kernel
theorem dX2_told_54 : decode cX2_told 54 = .ok (.getfield 157, 3) := by decide +kernel
theorem dX2_told_57 : decode cX2_told 57 = .ok (.ireturn, 1) := by decide +kernel
theorem dX2_told_58 : decode cX2_told 58 = .ok (.aload_n 0, 1) := by decide +kernel
theorem dX2_told_59 : decode cX2_told 59 = .ok (.getfield 115, 3) := by decide +kernel
theorem dX2_told_62 : decode cX2_told 62 = .ok (.ireturn, 1) := by decide +kernel
theorem dX2_told_63 : decode cX2_told 63 = .ok (.bipush (-2), 2) := by decide +kernel
theorem dX2_told_65 : decode cX2_told 65 = .ok (.ireturn, 1) := by decide +kernel
theorem dX2_isFrame_0 : decode cX2_isFrame 0 = .ok (.iload_n 0, 1) := by decide +kernel
theorem dX2_isFrame_1 : decode cX2_isFrame 1 = .ok (.ifCond .lt 14, 3) := by decide +kernel
theorem dX2_isFrame_4 : decode cX2_isFrame 4 = .ok (.iload_n 0, 1) := by decide +kernel
theorem dX2_isFrame_5 : decode cX2_isFrame 5 = .ok (.sipush 128, 3) := by decide +kernel
theorem dX2_isFrame_8 : decode cX2_isFrame 8 = .ok (.if_icmp .ge 7, 3) := by decide +kernel
theorem dX2_isFrame_11 : decode cX2_isFrame 11 = .ok (.iconst 1, 1) := by decide +kernel
theorem dX2_isFrame_12 : decode cX2_isFrame 12 = .ok (.goto 4, 3) := by decide +kernel
theorem dX2_isFrame_15 : decode cX2_isFrame 15 = .ok (.iconst 0, 1) := by decide +kernel
theorem dX2_isFrame_16 : decode cX2_isFrame 16 = .ok (.ireturn, 1) := by decide +kernel
theorem dX2_isOrder_0 : decode cX2_isOrder 0 = .ok (.iload_n 0, 1) := by decide +kernel
theorem dX2_isOrder_1 : decode cX2_isOrder 1 = .ok (.ifCond .lt 13, 3) := by decide +kernel
theorem dX2_isOrder_4 : decode cX2_isOrder 4 = .ok (.iload_n 0, 1) := by decide +kernel
theorem dX2_isOrder_5 : decode cX2_isOrder 5 = .ok (.bipush 7, 2) := by decide +kernel
theorem dX2_isOrder_7 : decode cX2_isOrder 7 = .ok (.if_icmp .gt 7, 3) := by decide +kernel
theorem dX2_isOrder_10 : decode cX2_isOrder 10 = .ok (.iconst 1, 1) := by decide +kernel
theorem dX2_isOrder_11 : decode cX2_isOrder 11 = .ok (.goto 4, 3) := by decide +kernel
theorem dX2_isOrder_14 : decode cX2_isOrder 14 = .ok (.iconst 0, 1) := by decide +kernel
theorem dX2_isOrder_15 : decode cX2_isOrder 15 = .ok (.ireturn, 1) := by decide +kernel
theorem dX2_isNumber_0 : decode cX2_isNumber 0 = .ok (.iload_n 0, 1) := by decide +kernel
theorem dX2_isNumber_1 : decode cX2_isNumber 1 = .ok (.ifCond .lt 13, 3) := by decide +kernel
theorem dX2_isNumber_4 : decode cX2_isNumber 4 = .ok (.iload_n 0, 1) := by decide +kernel
theorem dX2_isNumber_5 : decode cX2_isNumber 5 = .ok (.bipush 16, 2) := by decide +kernel
theorem dX2_isNumber_7 : decode cX2_isNumber 7 = .ok (.if_icmp .ge 7, 3) := by decide +kernel
theorem dX2_isNumber_10 : decode cX2_isNumber 10 = .ok (.iconst 1, 1) := by decide +kernel
theorem dX2_isNumber_11 : decode cX2_isNumber 11 = .ok (.goto 4, 3) := by decide +kernel
theorem dX2_isNumber_14 : decode cX2_isNumber 14 = .ok (.iconst 0, 1) := by decide +kernel
theorem dX2_isNumber_15 : decode cX2_isNumber 15 = .ok (.ireturn, 1) := by decide +kernel
theorem dX2_isLive_0 : decode cX2_isLive 0 = .ok (.iload_n 1, 1) := by decide +kernel
theorem dX2_isLive_1 : decode cX2_isLive 1 = .ok (.invokestatic 145, 3) := by decide +kernel
theorem dX2_isLive_4 : decode cX2_isLive 4 = .ok (.ifCond .eq 17, 3) := by decide +kernel
theorem dX2_isLive_7 : decode cX2_isLive 7 = .ok (.aload_n 0, 1) := by decide +kernel
theorem dX2_isLive_8 : decode cX2_isLive 8 = .ok (.getfield 38, 3) := by decide +kernel
theorem dX2_isLive_11 : decode cX2_isLive 11 = .ok (.iload_n 1, 1) := by decide +kernel
theorem dX2_isLive_12 : decode cX2_isLive 12 = .ok (.iaload, 1) := by decide +kernel
theorem dX2_isLive_13 : decode cX2_isLive 13 = .ok (.iconst 1, 1) := by decide +kernel
theorem dX2_isLive_14 : decode cX2_isLive 14 = .ok (.if_icmp .ne 7, 3) := by decide +kernel
theorem dX2_isLive_17 : decode cX2_isLive 17 = .ok (.iconst 1, 1) := by decide +kernel
theorem dX2_isLive_18 : decode cX2_isLive 18 = .ok (.goto 4, 3) := by decide +kernel
theorem dX2_isLive_21 : decode cX2_isLive 21 = .ok (.iconst 0, 1) := by decide +kernel
theorem dX2_isLive_22 : decode cX2_isLive 22 = .ok (.ireturn, 1) := by decide +kernel
theorem dX2_hasPage_0 : decode cX2_hasPage 0 = .ok (.aload_n 0, 1) := by decide +kernel
theorem dX2_hasPage_1 : decode cX2_hasPage 1 = .ok (.iload_n 1, 1) := by decide +kernel
theorem dX2_hasPage_2 : decode cX2_hasPage 2 = .ok (.invokevirtual 60, 3) := by decide +kernel
theorem dX2_hasPage_5 : decode cX2_hasPage 5 = .ok (.ifCond .eq 21, 3) := by decide +kernel
theorem dX2_hasPage_8 : decode cX2_hasPage 8 = .ok (.iload_n 2, 1) := by decide +kernel
theorem dX2_hasPage_9 : decode cX2_hasPage 9 = .ok (.ifCond .lt 17, 3) := by decide +kernel
theorem dX2_hasPage_12 : decode cX2_hasPage 12 = .ok (.iload_n 2, 1) := by decide +kernel
theorem dX2_hasPage_13 : decode cX2_hasPage 13 = .ok (.aload_n 0, 1) := by decide +kernel
theorem dX2_hasPage_14 : decode cX2_hasPage 14 = .ok (.getfield 47, 3) := by decide +kernel
theorem dX2_hasPage_17 : decode cX2_hasPage 17 = .ok (.iload_n 1, 1) := by decide +kernel
theorem dX2_hasPage_18 : decode cX2_hasPage 18 = .ok (.iaload, 1) := by decide +kernel
theorem dX2_hasPage_19 : decode cX2_hasPage 19 = .ok (.if_icmp .ge 7, 3) := by decide +kernel
theorem dX2_hasPage_22 : decode cX2_hasPage 22 = .ok (.iconst 1, 1) := by decide +kernel
theorem dX2_hasPage_23 : decode cX2_hasPage 23 = .ok (.goto 4, 3) := by decide +kernel
theorem dX2_hasPage_26 : decode cX2_hasPage 26 = .ok (.iconst 0, 1) := by decide +kernel
theorem dX2_hasPage_27 : decode cX2_hasPage 27 = .ok (.ireturn, 1) := by decide +kernel
theorem dX2_refuse_0 : decode cX2_refuse 0 = .ok (.aload_n 0, 1) := by decide +kernel
theorem dX2_refuse_1 : decode cX2_refuse 1 = .ok (.dup, 1) := by decide +kernel
theorem dX2_refuse_2 : decode cX2_refuse 2 = .ok (.getfield 157, 3) := by decide +kernel
theorem dX2_refuse_5 : decode cX2_refuse 5 = .ok (.iconst 1, 1) := by decide +kernel
theorem dX2_refuse_6 : decode cX2_refuse 6 = .ok (.iadd, 1) := by decide +kernel
theorem dX2_refuse_7 : decode cX2_refuse 7 = .ok (.putfield 157, 3) := by decide +kernel
theorem dX2_refuse_10 : decode cX2_refuse 10 = .ok (.bipush (-3), 2) := by decide +kernel
theorem dX2_refuse_12 : decode cX2_refuse 12 = .ok (.ireturn, 1) := by decide +kernel
theorem dX2_makeProcess_0 : decode cX2_makeProcess 0 = .ok (.aload_n 0, 1) := by decide +kernel
theorem dX2_makeProcess_1 : decode cX2_makeProcess 1 = .ok (.invokevirtual 160, 3) := by decide +kernel
theorem dX2_makeProcess_4 : decode cX2_makeProcess 4 = .ok (.istore_n 2, 1) := by decide +kernel
theorem dX2_makeProcess_5 : decode cX2_makeProcess 5 = .ok (.iload_n 2, 1) := by decide +kernel
theorem dX2_makeProcess_6 : decode cX2_makeProcess 6 = .ok (.invokestatic 145, 3) := by decide +kernel
theorem dX2_makeProcess_9 : decode cX2_makeProcess 9 = .ok (.ifCond .ne 6, 3) := by decide +kernel
theorem dX2_makeProcess_12 : decode cX2_makeProcess 12 = .ok (.bipush (-4), 2) := by decide +kernel
theorem dX2_makeProcess_14 : decode cX2_makeProcess 14 = .ok (.ireturn, 1) := by decide +kernel
theorem dX2_makeProcess_15 : decode cX2_makeProcess 15 = .ok (.aload_n 0, 1) := by decide +kernel
theorem dX2_makeProcess_16 : decode cX2_makeProcess 16 = .ok (.getfield 21, 3) := by decide +kernel
theorem dX2_makeProcess_19 : decode cX2_makeProcess 19 = .ok (.invokevirtual 163, 3) := by decide +kernel
theorem dX2_makeProcess_22 : decode cX2_makeProcess 22 = .ok (.istore_n 3, 1) := by decide +kernel
theorem dX2_makeProcess_23 : decode cX2_makeProcess 23 = .ok (.iload_n 3, 1) := by decide +kernel
theorem dX2_makeProcess_24 : decode cX2_makeProcess 24 = .ok (.iconst (-1), 1) := by decide +kernel
theorem dX2_makeProcess_25 : decode cX2_makeProcess 25 = .ok (.if_icmp .ne 8, 3) := by decide +kernel
theorem dX2_makeProcess_28 : decode cX2_makeProcess 28 = .ok (.aload_n 0, 1) := by decide +kernel
theorem dX2_makeProcess_29 : decode cX2_makeProcess 29 = .ok (.invokevirtual 72, 3) := by decide +kernel
theorem dX2_makeProcess_32 : decode cX2_makeProcess 32 = .ok (.ireturn, 1) := by decide +kernel
theorem dX2_makeProcess_33 : decode cX2_makeProcess 33 = .ok (.aload_n 0, 1) := by decide +kernel
theorem dX2_makeProcess_34 : decode cX2_makeProcess 34 = .ok (.getfield 50, 3) := by decide +kernel
theorem dX2_makeProcess_37 : decode cX2_makeProcess 37 = .ok (.iload_n 2, 1) := by decide +kernel
theorem dX2_makeProcess_38 : decode cX2_makeProcess 38 = .ok (.iload_n 3, 1) := by decide +kernel
theorem dX2_makeProcess_39 : decode cX2_makeProcess 39 = .ok (.iastore, 1) := by decide +kernel
theorem dX2_makeProcess_40 : decode cX2_makeProcess 40 = .ok (.aload_n 0, 1) := by decide +kernel
theorem dX2_makeProcess_41 : decode cX2_makeProcess 41 = .ok (.iload_n 1, 1) := by decide +kernel
theorem dX2_makeProcess_42 : decode cX2_makeProcess 42 = .ok (.invokevirtual 60, 3) := by decide +kernel
theorem dX2_makeProcess_45 : decode cX2_makeProcess 45 = .ok (.ifCond .eq 36, 3) := by decide +kernel
theorem dX2_makeProcess_48 : decode cX2_makeProcess 48 = .ok (.aload_n 0, 1) := by decide +kernel
theorem dX2_makeProcess_49 : decode cX2_makeProcess 49 = .ok (.iload_n 2, 1) := by decide +kernel
theorem dX2_makeProcess_50 : decode cX2_makeProcess 50 = .ok (.aload_n 0, 1) := by decide +kernel
theorem dX2_makeProcess_51 : decode cX2_makeProcess 51 = .ok (.getfield 47, 3) := by decide +kernel
theorem dX2_makeProcess_54 : decode cX2_makeProcess 54 = .ok (.iload_n 1, 1) := by decide +kernel
theorem dX2_makeProcess_55 : decode cX2_makeProcess 55 = .ok (.iaload, 1) := by decide +kernel
theorem dX2_makeProcess_56 : decode cX2_makeProcess 56 = .ok (.invokevirtual 166, 3) := by decide +kernel
theorem dX2_makeProcess_59 : decode cX2_makeProcess 59 = .ok (.ifCond .ne 16, 3) := by decide +kernel
theorem dX2_makeProcess_62 : decode cX2_makeProcess 62 = .ok (.aload_n 0, 1) := by decide +kernel
theorem dX2_makeProcess_63 : decode cX2_makeProcess 63 = .ok (.getfield 21, 3) := by decide +kernel
theorem dX2_makeProcess_66 : decode cX2_makeProcess 66 = .ok (.iload_n 3, 1) := by decide +kernel
theorem dX2_makeProcess_67 : decode cX2_makeProcess 67 = .ok (.invokevirtual 169, 3) := by decide +kernel
theorem dX2_makeProcess_70 : decode cX2_makeProcess 70 = .ok (.aload_n 0, 1) := by decide +kernel
theorem dX2_makeProcess_71 : decode cX2_makeProcess 71 = .ok (.invokevirtual 72, 3) := by decide +kernel
theorem dX2_makeProcess_74 : decode cX2_makeProcess 74 = .ok (.ireturn, 1) := by decide +kernel
theorem dX2_makeProcess_75 : decode cX2_makeProcess 75 = .ok (.aload_n 0, 1) := by decide +kernel
theorem dX2_makeProcess_76 : decode cX2_makeProcess 76 = .ok (.iload_n 1, 1) := by decide +kernel
theorem dX2_makeProcess_77 : decode cX2_makeProcess 77 = .ok (.iload_n 2, 1) := by decide +kernel
theorem dX2_makeProcess_78 : decode cX2_makeProcess 78 = .ok (.invokevirtual 172, 3) := by decide +kernel
theorem dX2_makeProcess_81 : decode cX2_makeProcess 81 = .ok (.aload_n 0, 1) := by decide +kernel
theorem dX2_makeProcess_82 : decode cX2_makeProcess 82 = .ok (.getfield 38, 3) := by decide +kernel
theorem dX2_makeProcess_85 : decode cX2_makeProcess 85 = .ok (.iload_n 2, 1) := by decide +kernel
theorem dX2_makeProcess_86 : decode cX2_makeProcess 86 = .ok (.iconst 1, 1) := by decide +kernel
theorem dX2_makeProcess_87 : decode cX2_makeProcess 87 = .ok (.iastore, 1) := by decide +kernel
theorem dX2_makeProcess_88 : decode cX2_makeProcess 88 = .ok (.aload_n 0, 1) := by decide +kernel
theorem dX2_makeProcess_89 : decode cX2_makeProcess 89 = .ok (.getfield 41, 3) := by decide +kernel
theorem dX2_makeProcess_92 : decode cX2_makeProcess 92 = .ok (.iload_n 2, 1) := by decide +kernel
theorem dX2_makeProcess_93 : decode cX2_makeProcess 93 = .ok (.iload_n 1, 1) := by decide +kernel
theorem dX2_makeProcess_94 : decode cX2_makeProcess 94 = .ok (.iastore, 1) := by decide +kernel
theorem dX2_makeProcess_95 : decode cX2_makeProcess 95 = .ok (.aload_n 0, 1) := by decide +kernel
theorem dX2_makeProcess_96 : decode cX2_makeProcess 96 = .ok (.iload_n 2, 1) := by decide +kernel
theorem dX2_makeProcess_97 : decode cX2_makeProcess 97 = .ok (.invokevirtual 112, 3) := by decide +kernel
theorem dX2_makeProcess_100 : decode cX2_makeProcess 100 = .ok (.iload_n 2, 1) := by decide +kernel
theorem dX2_makeProcess_101 : decode cX2_makeProcess 101 = .ok (.ireturn, 1) := by decide +kernel
theorem dX2_removeProcess_0 : decode cX2_removeProcess 0 = .ok (.aload_n 0, 1) := by decide +kernel
theorem dX2_removeProcess_1 : decode cX2_removeProcess 1 = .ok (.getfield 21, 3) := by decide +kernel
theorem dX2_removeProcess_4 : decode cX2_removeProcess 4 = .ok (.aload_n 0, 1) := by decide +kernel
theorem dX2_removeProcess_5 : decode cX2_removeProcess 5 = .ok (.getfield 50, 3) := by decide +kernel
theorem dX2_removeProcess_8 : decode cX2_removeProcess 8 = .ok (.iload_n 1, 1) := by decide +kernel
theorem dX2_removeProcess_9 : decode cX2_removeProcess 9 = .ok (.iaload, 1) := by decide +kernel
theorem dX2_removeProcess_10 : decode cX2_removeProcess 10 = .ok (.invokevirtual 169, 3) := by decide +kernel
theorem dX2_removeProcess_13 : decode cX2_removeProcess 13 = .ok (.aload_n 0, 1) := by decide +kernel
theorem dX2_removeProcess_14 : decode cX2_removeProcess 14 = .ok (.getfield 38, 3) := by decide +kernel
theorem dX2_removeProcess_17 : decode cX2_removeProcess 17 = .ok (.iload_n 1, 1) := by decide +kernel
theorem dX2_removeProcess_18 : decode cX2_removeProcess 18 = .ok (.iconst 0, 1) := by decide +kernel
theorem dX2_removeProcess_19 : decode cX2_removeProcess 19 = .ok (.iastore, 1) := by decide +kernel
theorem dX2_removeProcess_20 : decode cX2_removeProcess 20 = .ok (.aload_n 0, 1) := by decide +kernel
theorem dX2_removeProcess_21 : decode cX2_removeProcess 21 = .ok (.getfield 41, 3) := by decide +kernel
theorem dX2_removeProcess_24 : decode cX2_removeProcess 24 = .ok (.iload_n 1, 1) := by decide +kernel
theorem dX2_removeProcess_25 : decode cX2_removeProcess 25 = .ok (.iconst (-1), 1) := by decide +kernel
theorem dX2_removeProcess_26 : decode cX2_removeProcess 26 = .ok (.iastore, 1) := by decide +kernel
theorem dX2_removeProcess_27 : decode cX2_removeProcess 27 = .ok (.return_, 1) := by decide +kernel
theorem dX2_leastUnused_0 : decode cX2_leastUnused 0 = .ok (.iconst 0, 1) := by decide +kernel
theorem dX2_leastUnused_1 : decode cX2_leastUnused 1 = .ok (.istore_n 1, 1) := by decide +kernel
theorem dX2_leastUnused_2 : decode cX2_leastUnused 2 = .ok (.iload_n 1, 1) := by decide +kernel
theorem dX2_leastUnused_3 : decode cX2_leastUnused 3 = .ok (.bipush 16, 2) := by decide +kernel
theorem dX2_leastUnused_5 : decode cX2_leastUnused 5 = .ok (.if_icmp .ge 20, 3) := by decide +kernel
theorem dX2_leastUnused_8 : decode cX2_leastUnused 8 = .ok (.aload_n 0, 1) := by decide +kernel
theorem dX2_leastUnused_9 : decode cX2_leastUnused 9 = .ok (.getfield 38, 3) := by decide +kernel
theorem dX2_leastUnused_12 : decode cX2_leastUnused 12 = .ok (.iload_n 1, 1) := by decide +kernel
theorem dX2_leastUnused_13 : decode cX2_leastUnused 13 = .ok (.iaload, 1) := by decide +kernel
theorem dX2_leastUnused_14 : decode cX2_leastUnused 14 = .ok (.ifCond .ne 5, 3) := by decide +kernel
theorem dX2_leastUnused_17 : decode cX2_leastUnused 17 = .ok (.iload_n 1, 1) := by decide +kernel
theorem dX2_leastUnused_18 : decode cX2_leastUnused 18 = .ok (.ireturn, 1) := by decide +kernel
theorem dX2_leastUnused_19 : decode cX2_leastUnused 19 = .ok (.iinc 1 1, 3) := by decide +kernel
theorem dX2_leastUnused_22 : decode cX2_leastUnused 22 = .ok (.goto (-20), 3) := by decide +kernel
theorem dX2_leastUnused_25 : decode cX2_leastUnused 25 = .ok (.iconst (-1), 1) := by decide +kernel
theorem dX2_leastUnused_26 : decode cX2_leastUnused 26 = .ok (.ireturn, 1) := by decide +kernel
theorem dX2_countInState_0 : decode cX2_countInState 0 = .ok (.iconst 0, 1) := by decide +kernel
theorem dX2_countInState_1 : decode cX2_countInState 1 = .ok (.istore_n 2, 1) := by decide +kernel
theorem dX2_countInState_2 : decode cX2_countInState 2 = .ok (.iconst 0, 1) := by decide +kernel
theorem dX2_countInState_3 : decode cX2_countInState 3 = .ok (.istore_n 3, 1) := by decide +kernel
theorem dX2_countInState_4 : decode cX2_countInState 4 = .ok (.iload_n 3, 1) := by decide +kernel
theorem dX2_countInState_5 : decode cX2_countInState 5 = .ok (.bipush 16, 2) := by decide +kernel
theorem dX2_countInState_7 : decode cX2_countInState 7 = .ok (.if_icmp .ge 22, 3) := by decide +kernel
theorem dX2_countInState_10 : decode cX2_countInState 10 = .ok (.aload_n 0, 1) := by decide +kernel
theorem dX2_countInState_11 : decode cX2_countInState 11 = .ok (.getfield 38, 3) := by decide +kernel
theorem dX2_countInState_14 : decode cX2_countInState 14 = .ok (.iload_n 3, 1) := by decide +kernel
theorem dX2_countInState_15 : decode cX2_countInState 15 = .ok (.iaload, 1) := by decide +kernel
theorem dX2_countInState_16 : decode cX2_countInState 16 = .ok (.iload_n 1, 1) := by decide +kernel
theorem dX2_countInState_17 : decode cX2_countInState 17 = .ok (.if_icmp .ne 6, 3) := by decide +kernel
theorem dX2_countInState_20 : decode cX2_countInState 20 = .ok (.iinc 2 1, 3) := by decide +kernel
theorem dX2_countInState_23 : decode cX2_countInState 23 = .ok (.iinc 3 1, 3) := by decide +kernel
theorem dX2_countInState_26 : decode cX2_countInState 26 = .ok (.goto (-22), 3) := by decide +kernel
theorem dX2_countInState_29 : decode cX2_countInState 29 = .ok (.iload_n 2, 1) := by decide +kernel
theorem dX2_countInState_30 : decode cX2_countInState 30 = .ok (.ireturn, 1) := by decide +kernel
theorem dX2_childrenOf_0 : decode cX2_childrenOf 0 = .ok (.iconst 0, 1) := by decide +kernel
theorem dX2_childrenOf_1 : decode cX2_childrenOf 1 = .ok (.istore_n 2, 1) := by decide +kernel
theorem dX2_childrenOf_2 : decode cX2_childrenOf 2 = .ok (.iconst 0, 1) := by decide +kernel
theorem dX2_childrenOf_3 : decode cX2_childrenOf 3 = .ok (.istore_n 3, 1) := by decide +kernel
theorem dX2_childrenOf_4 : decode cX2_childrenOf 4 = .ok (.iload_n 3, 1) := by decide +kernel
theorem dX2_childrenOf_5 : decode cX2_childrenOf 5 = .ok (.bipush 16, 2) := by decide +kernel
theorem dX2_childrenOf_7 : decode cX2_childrenOf 7 = .ok (.if_icmp .ge 22, 3) := by decide +kernel
theorem dX2_childrenOf_10 : decode cX2_childrenOf 10 = .ok (.aload_n 0, 1) := by decide +kernel
theorem dX2_childrenOf_11 : decode cX2_childrenOf 11 = .ok (.getfield 41, 3) := by decide +kernel
theorem dX2_childrenOf_14 : decode cX2_childrenOf 14 = .ok (.iload_n 3, 1) := by decide +kernel
theorem dX2_childrenOf_15 : decode cX2_childrenOf 15 = .ok (.iaload, 1) := by decide +kernel
theorem dX2_childrenOf_16 : decode cX2_childrenOf 16 = .ok (.iload_n 1, 1) := by decide +kernel
theorem dX2_childrenOf_17 : decode cX2_childrenOf 17 = .ok (.if_icmp .ne 6, 3) := by decide +kernel
theorem dX2_childrenOf_20 : decode cX2_childrenOf 20 = .ok (.iinc 2 1, 3) := by decide +kernel
theorem dX2_childrenOf_23 : decode cX2_childrenOf 23 = .ok (.iinc 3 1, 3) := by decide +kernel
theorem dX2_childrenOf_26 : decode cX2_childrenOf 26 = .ok (.goto (-22), 3) := by decide +kernel
theorem dX2_childrenOf_29 : decode cX2_childrenOf 29 = .ok (.iload_n 2, 1) := by decide +kernel
theorem dX2_childrenOf_30 : decode cX2_childrenOf 30 = .ok (.ireturn, 1) := by decide +kernel
theorem dX2_leaveChildren_0 : decode cX2_leaveChildren 0 = .ok (.iconst 0, 1) := by decide +kernel
theorem dX2_leaveChildren_1 : decode cX2_leaveChildren 1 = .ok (.istore_n 2, 1) := by decide +kernel
theorem dX2_leaveChildren_2 : decode cX2_leaveChildren 2 = .ok (.iload_n 2, 1) := by decide +kernel
theorem dX2_leaveChildren_3 : decode cX2_leaveChildren 3 = .ok (.bipush 16, 2) := by decide +kernel
theorem dX2_leaveChildren_5 : decode cX2_leaveChildren 5 = .ok (.if_icmp .ge 44, 3) := by decide +kernel
theorem dX2_leaveChildren_8 : decode cX2_leaveChildren 8 = .ok (.aload_n 0, 1) := by decide +kernel
theorem dX2_leaveChildren_9 : decode cX2_leaveChildren 9 = .ok (.getfield 41, 3) := by decide +kernel
theorem dX2_leaveChildren_12 : decode cX2_leaveChildren 12 = .ok (.iload_n 2, 1) := by decide +kernel
theorem dX2_leaveChildren_13 : decode cX2_leaveChildren 13 = .ok (.iaload, 1) := by decide +kernel
theorem dX2_leaveChildren_14 : decode cX2_leaveChildren 14 = .ok (.iload_n 1, 1) := by decide +kernel
theorem dX2_leaveChildren_15 : decode cX2_leaveChildren 15 = .ok (.if_icmp .ne 28, 3) := by decide +kernel
theorem dX2_leaveChildren_18 : decode cX2_leaveChildren 18 = .ok (.aload_n 0, 1) := by decide +kernel
theorem dX2_leaveChildren_19 : decode cX2_leaveChildren 19 = .ok (.getfield 38, 3) := by decide +kernel
theorem dX2_leaveChildren_22 : decode cX2_leaveChildren 22 = .ok (.iload_n 2, 1) := by decide +kernel
theorem dX2_leaveChildren_23 : decode cX2_leaveChildren 23 = .ok (.iaload, 1) := by decide +kernel
theorem dX2_leaveChildren_24 : decode cX2_leaveChildren 24 = .ok (.iconst 2, 1) := by decide +kernel
theorem dX2_leaveChildren_25 : decode cX2_leaveChildren 25 = .ok (.if_icmp .ne 11, 3) := by decide +kernel
theorem dX2_leaveChildren_28 : decode cX2_leaveChildren 28 = .ok (.aload_n 0, 1) := by decide +kernel
theorem dX2_leaveChildren_29 : decode cX2_leaveChildren 29 = .ok (.iload_n 2, 1) := by decide +kernel
theorem dX2_leaveChildren_30 : decode cX2_leaveChildren 30 = .ok (.invokevirtual 102, 3) := by decide +kernel
theorem dX2_leaveChildren_33 : decode cX2_leaveChildren 33 = .ok (.goto 10, 3) := by decide +kernel
theorem dX2_leaveChildren_36 : decode cX2_leaveChildren 36 = .ok (.aload_n 0, 1) := by decide +kernel
theorem dX2_leaveChildren_37 : decode cX2_leaveChildren 37 = .ok (.getfield 41, 3) := by decide +kernel
theorem dX2_leaveChildren_40 : decode cX2_leaveChildren 40 = .ok (.iload_n 2, 1) := by decide +kernel
theorem dX2_leaveChildren_41 : decode cX2_leaveChildren 41 = .ok (.iconst (-1), 1) := by decide +kernel
theorem dX2_leaveChildren_42 : decode cX2_leaveChildren 42 = .ok (.iastore, 1) := by decide +kernel
theorem dX2_leaveChildren_43 : decode cX2_leaveChildren 43 = .ok (.iinc 2 1, 3) := by decide +kernel
theorem dX2_leaveChildren_46 : decode cX2_leaveChildren 46 = .ok (.goto (-44), 3) := by decide +kernel
theorem dX2_leaveChildren_49 : decode cX2_leaveChildren 49 = .ok (.return_, 1) := by decide +kernel
theorem dX2_joinRow_0 : decode cX2_joinRow 0 = .ok (.aload_n 0, 1) := by decide +kernel
theorem dX2_joinRow_1 : decode cX2_joinRow 1 = .ok (.getfield 108, 3) := by decide +kernel
theorem dX2_joinRow_4 : decode cX2_joinRow 4 = .ok (.bipush 16, 2) := by decide +kernel
theorem dX2_joinRow_6 : decode cX2_joinRow 6 = .ok (.if_icmp .ge 23, 3) := by decide +kernel
theorem dX2_joinRow_9 : decode cX2_joinRow 9 = .ok (.aload_n 0, 1) := by decide +kernel
theorem dX2_joinRow_10 : decode cX2_joinRow 10 = .ok (.getfield 53, 3) := by decide +kernel
theorem dX2_joinRow_13 : decode cX2_joinRow 13 = .ok (.aload_n 0, 1) := by decide +kernel
theorem dX2_joinRow_14 : decode cX2_joinRow 14 = .ok (.getfield 108, 3) := by decide +kernel
theorem dX2_joinRow_17 : decode cX2_joinRow 17 = .ok (.iload_n 1, 1) := by decide +kernel
theorem dX2_joinRow_18 : decode cX2_joinRow 18 = .ok (.iastore, 1) := by decide +kernel
theorem dX2_joinRow_19 : decode cX2_joinRow 19 = .ok (.aload_n 0, 1) := by decide +kernel
theorem dX2_joinRow_20 : decode cX2_joinRow 20 = .ok (.dup, 1) := by decide +kernel
theorem dX2_joinRow_21 : decode cX2_joinRow 21 = .ok (.getfield 108, 3) := by decide +kernel
theorem dX2_joinRow_24 : decode cX2_joinRow 24 = .ok (.iconst 1, 1) := by decide +kernel
theorem dX2_joinRow_25 : decode cX2_joinRow 25 = .ok (.iadd, 1) := by decide +kernel
theorem dX2_joinRow_26 : decode cX2_joinRow 26 = .ok (.putfield 108, 3) := by decide +kernel
theorem dX2_joinRow_29 : decode cX2_joinRow 29 = .ok (.return_, 1) := by decide +kernel
theorem dX2_leaveRow_0 : decode cX2_leaveRow 0 = .ok (.iconst 0, 1) := by decide +kernel
theorem dX2_leaveRow_1 : decode cX2_leaveRow 1 = .ok (.istore_n 2, 1) := by decide +kernel
theorem dX2_leaveRow_2 : decode cX2_leaveRow 2 = .ok (.iconst 0, 1) := by decide +kernel
theorem dX2_leaveRow_3 : decode cX2_leaveRow 3 = .ok (.istore_n 3, 1) := by decide +kernel
theorem dX2_leaveRow_4 : decode cX2_leaveRow 4 = .ok (.iload_n 3, 1) := by decide +kernel
theorem dX2_leaveRow_5 : decode cX2_leaveRow 5 = .ok (.aload_n 0, 1) := by decide +kernel
theorem dX2_leaveRow_6 : decode cX2_leaveRow 6 = .ok (.getfield 108, 3) := by decide +kernel
theorem dX2_leaveRow_9 : decode cX2_leaveRow 9 = .ok (.if_icmp .ge 34, 3) := by decide +kernel
theorem dX2_leaveRow_12 : decode cX2_leaveRow 12 = .ok (.aload_n 0, 1) := by decide +kernel
theorem dX2_leaveRow_13 : decode cX2_leaveRow 13 = .ok (.getfield 53, 3) := by decide +kernel
theorem dX2_leaveRow_16 : decode cX2_leaveRow 16 = .ok (.iload_n 3, 1) := by decide +kernel
theorem dX2_leaveRow_17 : decode cX2_leaveRow 17 = .ok (.iaload, 1) := by decide +kernel
theorem dX2_leaveRow_18 : decode cX2_leaveRow 18 = .ok (.iload_n 1, 1) := by decide +kernel
theorem dX2_leaveRow_19 : decode cX2_leaveRow 19 = .ok (.if_icmp .eq 18, 3) := by decide +kernel
theorem dX2_leaveRow_22 : decode cX2_leaveRow 22 = .ok (.aload_n 0, 1) := by decide +kernel
theorem dX2_leaveRow_23 : decode cX2_leaveRow 23 = .ok (.getfield 53, 3) := by decide +kernel
theorem dX2_leaveRow_26 : decode cX2_leaveRow 26 = .ok (.iload_n 2, 1) := by decide +kernel
theorem dX2_leaveRow_27 : decode cX2_leaveRow 27 = .ok (.aload_n 0, 1) := by decide +kernel
theorem dX2_leaveRow_28 : decode cX2_leaveRow 28 = .ok (.getfield 53, 3) := by decide +kernel
theorem dX2_leaveRow_31 : decode cX2_leaveRow 31 = .ok (.iload_n 3, 1) := by decide +kernel
theorem dX2_leaveRow_32 : decode cX2_leaveRow 32 = .ok (.iaload, 1) := by decide +kernel
theorem dX2_leaveRow_33 : decode cX2_leaveRow 33 = .ok (.iastore, 1) := by decide +kernel
theorem dX2_leaveRow_34 : decode cX2_leaveRow 34 = .ok (.iinc 2 1, 3) := by decide +kernel
theorem dX2_leaveRow_37 : decode cX2_leaveRow 37 = .ok (.iinc 3 1, 3) := by decide +kernel
theorem dX2_leaveRow_40 : decode cX2_leaveRow 40 = .ok (.goto (-36), 3) := by decide +kernel
theorem dX2_leaveRow_43 : decode cX2_leaveRow 43 = .ok (.aload_n 0, 1) := by decide +kernel
theorem dX2_leaveRow_44 : decode cX2_leaveRow 44 = .ok (.iload_n 2, 1) := by decide +kernel
theorem dX2_leaveRow_45 : decode cX2_leaveRow 45 = .ok (.putfield 108, 3) := by decide +kernel
theorem dX2_leaveRow_48 : decode cX2_leaveRow 48 = .ok (.return_, 1) := by decide +kernel
theorem dX2_placeInRow_0 : decode cX2_placeInRow 0 = .ok (.iconst 0, 1) := by decide +kernel
theorem dX2_placeInRow_1 : decode cX2_placeInRow 1 = .ok (.istore_n 2, 1) := by decide +kernel
theorem dX2_placeInRow_2 : decode cX2_placeInRow 2 = .ok (.iload_n 2, 1) := by decide +kernel
theorem dX2_placeInRow_3 : decode cX2_placeInRow 3 = .ok (.aload_n 0, 1) := by decide +kernel
theorem dX2_placeInRow_4 : decode cX2_placeInRow 4 = .ok (.getfield 108, 3) := by decide +kernel
theorem dX2_placeInRow_7 : decode cX2_placeInRow 7 = .ok (.if_icmp .ge 21, 3) := by decide +kernel
theorem dX2_placeInRow_10 : decode cX2_placeInRow 10 = .ok (.aload_n 0, 1) := by decide +kernel
theorem dX2_placeInRow_11 : decode cX2_placeInRow 11 = .ok (.getfield 53, 3) := by decide +kernel
theorem dX2_placeInRow_14 : decode cX2_placeInRow 14 = .ok (.iload_n 2, 1) := by decide +kernel
theorem dX2_placeInRow_15 : decode cX2_placeInRow 15 = .ok (.iaload, 1) := by decide +kernel
theorem dX2_placeInRow_16 : decode cX2_placeInRow 16 = .ok (.iload_n 1, 1) := by decide +kernel
theorem dX2_placeInRow_17 : decode cX2_placeInRow 17 = .ok (.if_icmp .ne 5, 3) := by decide +kernel
theorem dX2_placeInRow_20 : decode cX2_placeInRow 20 = .ok (.iload_n 2, 1) := by decide +kernel
theorem dX2_placeInRow_21 : decode cX2_placeInRow 21 = .ok (.ireturn, 1) := by decide +kernel
theorem dX2_placeInRow_22 : decode cX2_placeInRow 22 = .ok (.iinc 2 1, 3) := by decide +kernel
theorem dX2_placeInRow_25 : decode cX2_placeInRow 25 = .ok (.goto (-23), 3) := by decide +kernel
theorem dX2_placeInRow_28 : decode cX2_placeInRow 28 = .ok (.iconst (-1), 1) := by decide +kernel
theorem dX2_placeInRow_29 : decode cX2_placeInRow 29 = .ok (.ireturn, 1) := by decide +kernel
theorem dX2_takeTables_0 : decode cX2_takeTables 0 = .ok (.iconst 0, 1) := by decide +kernel
theorem dX2_takeTables_1 : decode cX2_takeTables 1 = .ok (.istore_n 3, 1) := by decide +kernel
theorem dX2_takeTables_2 : decode cX2_takeTables 2 = .ok (.iload_n 3, 1) := by decide +kernel
theorem dX2_takeTables_3 : decode cX2_takeTables 3 = .ok (.iload_n 2, 1) := by decide +kernel
theorem dX2_takeTables_4 : decode cX2_takeTables 4 = .ok (.if_icmp .ge 44, 3) := by decide +kernel
theorem dX2_takeTables_7 : decode cX2_takeTables 7 = .ok (.aload_n 0, 1) := by decide +kernel
theorem dX2_takeTables_8 : decode cX2_takeTables 8 = .ok (.iload_n 1, 1) := by decide +kernel
theorem dX2_takeTables_9 : decode cX2_takeTables 9 = .ok (.iload_n 3, 1) := by decide +kernel
theorem dX2_takeTables_10 : decode cX2_takeTables 10 = .ok (.invokevirtual 175, 3) := by decide +kernel
theorem dX2_takeTables_13 : decode cX2_takeTables 13 = .ok (.ifCond .ne 29, 3) := by decide +kernel
theorem dX2_takeTables_16 : decode cX2_takeTables 16 = .ok (.iload_n 3, 1) := by decide +kernel
theorem dX2_takeTables_17 : decode cX2_takeTables 17 = .ok (.bipush 16, 2) := by decide +kernel
theorem dX2_takeTables_19 : decode cX2_takeTables 19 = .ok (.isub, 1) := by decide +kernel
theorem dX2_takeTables_20 : decode cX2_takeTables 20 = .ok (.istore 4, 2) := by decide +kernel
theorem dX2_takeTables_22 : decode cX2_takeTables 22 = .ok (.iload 4, 2) := by decide +kernel
theorem dX2_takeTables_24 : decode cX2_takeTables 24 = .ok (.ifCond .lt 16, 3) := by decide +kernel
theorem dX2_takeTables_27 : decode cX2_takeTables 27 = .ok (.aload_n 0, 1) := by decide +kernel
theorem dX2_takeTables_28 : decode cX2_takeTables 28 = .ok (.iload_n 1, 1) := by decide +kernel
theorem dX2_takeTables_29 : decode cX2_takeTables 29 = .ok (.iload 4, 2) := by decide +kernel
theorem dX2_takeTables_31 : decode cX2_takeTables 31 = .ok (.invokevirtual 178, 3) := by decide +kernel
theorem dX2_takeTables_34 : decode cX2_takeTables 34 = .ok (.iinc 4 (-16), 3) := by decide +kernel
theorem dX2_takeTables_37 : decode cX2_takeTables 37 = .ok (.goto (-15), 3) := by decide +kernel
theorem dX2_takeTables_40 : decode cX2_takeTables 40 = .ok (.iconst 0, 1) := by decide +kernel
theorem dX2_takeTables_41 : decode cX2_takeTables 41 = .ok (.ireturn, 1) := by decide +kernel
theorem dX2_takeTables_42 : decode cX2_takeTables 42 = .ok (.iinc 3 16, 3) := by decide +kernel
theorem dX2_takeTables_45 : decode cX2_takeTables 45 = .ok (.goto (-43), 3) := by decide +kernel
theorem dX2_takeTables_48 : decode cX2_takeTables 48 = .ok (.iconst 1, 1) := by decide +kernel
theorem dX2_takeTables_49 : decode cX2_takeTables 49 = .ok (.ireturn, 1) := by decide +kernel
theorem dX2_sharePages_0 : decode cX2_sharePages 0 = .ok (.iconst 0, 1) := by decide +kernel
theorem dX2_sharePages_1 : decode cX2_sharePages 1 = .ok (.istore_n 3, 1) := by decide +kernel
theorem dX2_sharePages_2 : decode cX2_sharePages 2 = .ok (.iload_n 3, 1) := by decide +kernel
theorem dX2_sharePages_3 : decode cX2_sharePages 3 = .ok (.aload_n 0, 1) := by decide +kernel
theorem dX2_sharePages_4 : decode cX2_sharePages 4 = .ok (.getfield 47, 3) := by decide +kernel
theorem dX2_sharePages_7 : decode cX2_sharePages 7 = .ok (.iload_n 1, 1) := by decide +kernel
theorem dX2_sharePages_8 : decode cX2_sharePages 8 = .ok (.iaload, 1) := by decide +kernel
theorem dX2_sharePages_9 : decode cX2_sharePages 9 = .ok (.if_icmp .ge 48, 3) := by decide +kernel
theorem dX2_sharePages_12 : decode cX2_sharePages 12 = .ok (.aload_n 0, 1) := by decide +kernel
theorem dX2_sharePages_13 : decode cX2_sharePages 13 = .ok (.iload_n 1, 1) := by decide +kernel
theorem dX2_sharePages_14 : decode cX2_sharePages 14 = .ok (.iload_n 3, 1) := by decide +kernel
theorem dX2_sharePages_15 : decode cX2_sharePages 15 = .ok (.invokevirtual 136, 3) := by decide +kernel
theorem dX2_sharePages_18 : decode cX2_sharePages 18 = .ok (.istore 4, 2) := by decide +kernel
theorem dX2_sharePages_20 : decode cX2_sharePages 20 = .ok (.iload 4, 2) := by decide +kernel
theorem dX2_sharePages_22 : decode cX2_sharePages 22 = .ok (.invokestatic 124, 3) := by decide +kernel
theorem dX2_sharePages_25 : decode cX2_sharePages 25 = .ok (.ifCond .eq 14, 3) := by decide +kernel
theorem dX2_sharePages_28 : decode cX2_sharePages 28 = .ok (.aload_n 0, 1) := by decide +kernel
theorem dX2_sharePages_29 : decode cX2_sharePages 29 = .ok (.getfield 32, 3) := by decide +kernel
theorem dX2_sharePages_32 : decode cX2_sharePages 32 = .ok (.iload 4, 2) := by decide +kernel
theorem dX2_sharePages_34 : decode cX2_sharePages 34 = .ok (.dup2, 1) := by decide +kernel
theorem dX2_sharePages_35 : decode cX2_sharePages 35 = .ok (.iaload, 1) := by decide +kernel
theorem dX2_sharePages_36 : decode cX2_sharePages 36 = .ok (.iconst 1, 1) := by decide +kernel
theorem dX2_sharePages_37 : decode cX2_sharePages 37 = .ok (.iadd, 1) := by decide +kernel
theorem dX2_sharePages_38 : decode cX2_sharePages 38 = .ok (.iastore, 1) := by decide +kernel
theorem dX2_sharePages_39 : decode cX2_sharePages 39 = .ok (.aload_n 0, 1) := by decide +kernel
theorem dX2_sharePages_40 : decode cX2_sharePages 40 = .ok (.aload_n 0, 1) := by decide +kernel
theorem dX2_sharePages_41 : decode cX2_sharePages 41 = .ok (.iload_n 2, 1) := by decide +kernel
theorem dX2_sharePages_42 : decode cX2_sharePages 42 = .ok (.iload_n 3, 1) := by decide +kernel
theorem dX2_sharePages_43 : decode cX2_sharePages 43 = .ok (.invokevirtual 181, 3) := by decide +kernel
theorem dX2_sharePages_46 : decode cX2_sharePages 46 = .ok (.iload 4, 2) := by decide +kernel
theorem dX2_sharePages_48 : decode cX2_sharePages 48 = .ok (.invokevirtual 92, 3) := by decide +kernel
theorem dX2_sharePages_51 : decode cX2_sharePages 51 = .ok (.iinc 3 1, 3) := by decide +kernel
theorem dX2_sharePages_54 : decode cX2_sharePages 54 = .ok (.goto (-52), 3) := by decide +kernel
theorem dX2_sharePages_57 : decode cX2_sharePages 57 = .ok (.aload_n 0, 1) := by decide +kernel
theorem dX2_sharePages_58 : decode cX2_sharePages 58 = .ok (.getfield 47, 3) := by decide +kernel
theorem dX2_sharePages_61 : decode cX2_sharePages 61 = .ok (.iload_n 2, 1) := by decide +kernel
theorem dX2_sharePages_62 : decode cX2_sharePages 62 = .ok (.aload_n 0, 1) := by decide +kernel
theorem dX2_sharePages_63 : decode cX2_sharePages 63 = .ok (.getfield 47, 3) := by decide +kernel
theorem dX2_sharePages_66 : decode cX2_sharePages 66 = .ok (.iload_n 1, 1) := by decide +kernel
theorem dX2_sharePages_67 : decode cX2_sharePages 67 = .ok (.iaload, 1) := by decide +kernel
theorem dX2_sharePages_68 : decode cX2_sharePages 68 = .ok (.iastore, 1) := by decide +kernel
theorem dX2_sharePages_69 : decode cX2_sharePages 69 = .ok (.return_, 1) := by decide +kernel
theorem dX2_addPage_0 : decode cX2_addPage 0 = .ok (.iload_n 2, 1) := by decide +kernel
theorem dX2_addPage_1 : decode cX2_addPage 1 = .ok (.bipush 16, 2) := by decide +kernel
theorem dX2_addPage_3 : decode cX2_addPage 3 = .ok (.irem, 1) := by decide +kernel
theorem dX2_addPage_4 : decode cX2_addPage 4 = .ok (.ifCond .ne 7, 3) := by decide +kernel
theorem dX2_addPage_7 : decode cX2_addPage 7 = .ok (.iconst 1, 1) := by decide +kernel
theorem dX2_addPage_8 : decode cX2_addPage 8 = .ok (.goto 4, 3) := by decide +kernel
theorem dX2_addPage_11 : decode cX2_addPage 11 = .ok (.iconst 0, 1) := by decide +kernel
theorem dX2_addPage_12 : decode cX2_addPage 12 = .ok (.istore_n 3, 1) := by decide +kernel
theorem dX2_addPage_13 : decode cX2_addPage 13 = .ok (.iload_n 3, 1) := by decide +kernel
theorem dX2_addPage_14 : decode cX2_addPage 14 = .ok (.ifCond .eq 14, 3) := by decide +kernel
theorem dX2_addPage_17 : decode cX2_addPage 17 = .ok (.aload_n 0, 1) := by decide +kernel
theorem dX2_addPage_18 : decode cX2_addPage 18 = .ok (.iload_n 1, 1) := by decide +kernel
theorem dX2_addPage_19 : decode cX2_addPage 19 = .ok (.iload_n 2, 1) := by decide +kernel
theorem dX2_addPage_20 : decode cX2_addPage 20 = .ok (.invokevirtual 175, 3) := by decide +kernel
theorem dX2_addPage_23 : decode cX2_addPage 23 = .ok (.ifCond .ne 5, 3) := by decide +kernel
theorem dX2_addPage_26 : decode cX2_addPage 26 = .ok (.iconst 0, 1) := by decide +kernel
theorem dX2_addPage_27 : decode cX2_addPage 27 = .ok (.ireturn, 1) := by decide +kernel
theorem dX2_addPage_28 : decode cX2_addPage 28 = .ok (.aload_n 0, 1) := by decide +kernel
theorem dX2_addPage_29 : decode cX2_addPage 29 = .ok (.invokevirtual 184, 3) := by decide +kernel
theorem dX2_addPage_32 : decode cX2_addPage 32 = .ok (.istore 4, 2) := by decide +kernel
theorem dX2_addPage_34 : decode cX2_addPage 34 = .ok (.iload 4, 2) := by decide +kernel
theorem dX2_addPage_36 : decode cX2_addPage 36 = .ok (.iconst (-1), 1) := by decide +kernel
theorem dX2_addPage_37 : decode cX2_addPage 37 = .ok (.if_icmp .ne 15, 3) := by decide +kernel
theorem dX2_addPage_40 : decode cX2_addPage 40 = .ok (.iload_n 3, 1) := by decide +kernel
theorem dX2_addPage_41 : decode cX2_addPage 41 = .ok (.ifCond .eq 9, 3) := by decide +kernel
theorem dX2_addPage_44 : decode cX2_addPage 44 = .ok (.aload_n 0, 1) := by decide +kernel
theorem dX2_addPage_45 : decode cX2_addPage 45 = .ok (.iload_n 1, 1) := by decide +kernel
theorem dX2_addPage_46 : decode cX2_addPage 46 = .ok (.iload_n 2, 1) := by decide +kernel
theorem dX2_addPage_47 : decode cX2_addPage 47 = .ok (.invokevirtual 178, 3) := by decide +kernel
theorem dX2_addPage_50 : decode cX2_addPage 50 = .ok (.iconst 0, 1) := by decide +kernel
theorem dX2_addPage_51 : decode cX2_addPage 51 = .ok (.ireturn, 1) := by decide +kernel
theorem dX2_addPage_52 : decode cX2_addPage 52 = .ok (.iconst 0, 1) := by decide +kernel
theorem dX2_addPage_53 : decode cX2_addPage 53 = .ok (.istore 5, 2) := by decide +kernel
theorem dX2_addPage_55 : decode cX2_addPage 55 = .ok (.iload 5, 2) := by decide +kernel
theorem dX2_addPage_57 : decode cX2_addPage 57 = .ok (.bipush 64, 2) := by decide +kernel
theorem dX2_addPage_59 : decode cX2_addPage 59 = .ok (.if_icmp .ge 22, 3) := by decide +kernel
theorem dX2_addPage_62 : decode cX2_addPage 62 = .ok (.aload_n 0, 1) := by decide +kernel
theorem dX2_addPage_63 : decode cX2_addPage 63 = .ok (.iload 4, 2) := by decide +kernel
theorem dX2_addPage_65 : decode cX2_addPage 65 = .ok (.bipush 64, 2) := by decide +kernel
theorem dX2_addPage_67 : decode cX2_addPage 67 = .ok (.imul, 1) := by decide +kernel
theorem dX2_addPage_68 : decode cX2_addPage 68 = .ok (.iload 5, 2) := by decide +kernel
theorem dX2_addPage_70 : decode cX2_addPage 70 = .ok (.iadd, 1) := by decide +kernel
theorem dX2_addPage_71 : decode cX2_addPage 71 = .ok (.iconst 0, 1) := by decide +kernel
theorem dX2_addPage_72 : decode cX2_addPage 72 = .ok (.invokevirtual 92, 3) := by decide +kernel
theorem dX2_addPage_75 : decode cX2_addPage 75 = .ok (.iinc 5 1, 3) := by decide +kernel
theorem dX2_addPage_78 : decode cX2_addPage 78 = .ok (.goto (-23), 3) := by decide +kernel
theorem dX2_addPage_81 : decode cX2_addPage 81 = .ok (.aload_n 0, 1) := by decide +kernel
theorem dX2_addPage_82 : decode cX2_addPage 82 = .ok (.aload_n 0, 1) := by decide +kernel
theorem dX2_addPage_83 : decode cX2_addPage 83 = .ok (.iload_n 1, 1) := by decide +kernel
theorem dX2_addPage_84 : decode cX2_addPage 84 = .ok (.iload_n 2, 1) := by decide +kernel
theorem dX2_addPage_85 : decode cX2_addPage 85 = .ok (.invokevirtual 181, 3) := by decide +kernel
theorem dX2_addPage_88 : decode cX2_addPage 88 = .ok (.iload 4, 2) := by decide +kernel
theorem dX2_addPage_90 : decode cX2_addPage 90 = .ok (.invokevirtual 92, 3) := by decide +kernel
theorem dX2_addPage_93 : decode cX2_addPage 93 = .ok (.aload_n 0, 1) := by decide +kernel
theorem dX2_addPage_94 : decode cX2_addPage 94 = .ok (.getfield 47, 3) := by decide +kernel
theorem dX2_addPage_97 : decode cX2_addPage 97 = .ok (.iload_n 1, 1) := by decide +kernel
theorem dX2_addPage_98 : decode cX2_addPage 98 = .ok (.iload_n 2, 1) := by decide +kernel
theorem dX2_addPage_99 : decode cX2_addPage 99 = .ok (.iconst 1, 1) := by decide +kernel
theorem dX2_addPage_100 : decode cX2_addPage 100 = .ok (.iadd, 1) := by decide +kernel
theorem dX2_addPage_101 : decode cX2_addPage 101 = .ok (.iastore, 1) := by decide +kernel
theorem dX2_addPage_102 : decode cX2_addPage 102 = .ok (.iconst 1, 1) := by decide +kernel
theorem dX2_addPage_103 : decode cX2_addPage 103 = .ok (.ireturn, 1) := by decide +kernel
theorem dX2_shrinkTo_0 : decode cX2_shrinkTo 0 = .ok (.aload_n 0, 1) := by decide +kernel
theorem dX2_shrinkTo_1 : decode cX2_shrinkTo 1 = .ok (.getfield 47, 3) := by decide +kernel
theorem dX2_shrinkTo_4 : decode cX2_shrinkTo 4 = .ok (.iload_n 1, 1) := by decide +kernel
theorem dX2_shrinkTo_5 : decode cX2_shrinkTo 5 = .ok (.iaload, 1) := by decide +kernel
theorem dX2_shrinkTo_6 : decode cX2_shrinkTo 6 = .ok (.iconst 1, 1) := by decide +kernel
theorem dX2_shrinkTo_7 : decode cX2_shrinkTo 7 = .ok (.isub, 1) := by decide +kernel
theorem dX2_shrinkTo_8 : decode cX2_shrinkTo 8 = .ok (.istore_n 3, 1) := by decide +kernel
theorem dX2_shrinkTo_9 : decode cX2_shrinkTo 9 = .ok (.iload_n 3, 1) := by decide +kernel
theorem dX2_shrinkTo_10 : decode cX2_shrinkTo 10 = .ok (.iload_n 2, 1) := by decide +kernel
theorem dX2_shrinkTo_11 : decode cX2_shrinkTo 11 = .ok (.if_icmp .lt 39, 3) := by decide +kernel
theorem dX2_shrinkTo_14 : decode cX2_shrinkTo 14 = .ok (.aload_n 0, 1) := by decide +kernel
theorem dX2_shrinkTo_15 : decode cX2_shrinkTo 15 = .ok (.aload_n 0, 1) := by decide +kernel
theorem dX2_shrinkTo_16 : decode cX2_shrinkTo 16 = .ok (.iload_n 1, 1) := by decide +kernel
theorem dX2_shrinkTo_17 : decode cX2_shrinkTo 17 = .ok (.iload_n 3, 1) := by decide +kernel
theorem dX2_shrinkTo_18 : decode cX2_shrinkTo 18 = .ok (.invokevirtual 136, 3) := by decide +kernel
theorem dX2_shrinkTo_21 : decode cX2_shrinkTo 21 = .ok (.invokevirtual 187, 3) := by decide +kernel
theorem dX2_shrinkTo_24 : decode cX2_shrinkTo 24 = .ok (.iload_n 3, 1) := by decide +kernel
theorem dX2_shrinkTo_25 : decode cX2_shrinkTo 25 = .ok (.bipush 16, 2) := by decide +kernel
theorem dX2_shrinkTo_27 : decode cX2_shrinkTo 27 = .ok (.irem, 1) := by decide +kernel
theorem dX2_shrinkTo_28 : decode cX2_shrinkTo 28 = .ok (.ifCond .ne 9, 3) := by decide +kernel
theorem dX2_shrinkTo_31 : decode cX2_shrinkTo 31 = .ok (.aload_n 0, 1) := by decide +kernel
theorem dX2_shrinkTo_32 : decode cX2_shrinkTo 32 = .ok (.iload_n 1, 1) := by decide +kernel
theorem dX2_shrinkTo_33 : decode cX2_shrinkTo 33 = .ok (.iload_n 3, 1) := by decide +kernel
theorem dX2_shrinkTo_34 : decode cX2_shrinkTo 34 = .ok (.invokevirtual 178, 3) := by decide +kernel
theorem dX2_shrinkTo_37 : decode cX2_shrinkTo 37 = .ok (.aload_n 0, 1) := by decide +kernel
theorem dX2_shrinkTo_38 : decode cX2_shrinkTo 38 = .ok (.getfield 47, 3) := by decide +kernel
theorem dX2_shrinkTo_41 : decode cX2_shrinkTo 41 = .ok (.iload_n 1, 1) := by decide +kernel
theorem dX2_shrinkTo_42 : decode cX2_shrinkTo 42 = .ok (.iload_n 3, 1) := by decide +kernel
theorem dX2_shrinkTo_43 : decode cX2_shrinkTo 43 = .ok (.iastore, 1) := by decide +kernel
theorem dX2_shrinkTo_44 : decode cX2_shrinkTo 44 = .ok (.iinc 3 (-1), 3) := by decide +kernel
theorem dX2_shrinkTo_47 : decode cX2_shrinkTo 47 = .ok (.goto (-38), 3) := by decide +kernel
theorem dX2_shrinkTo_50 : decode cX2_shrinkTo 50 = .ok (.return_, 1) := by decide +kernel
theorem dX2_ownPage_0 : decode cX2_ownPage 0 = .ok (.aload_n 0, 1) := by decide +kernel
theorem dX2_ownPage_1 : decode cX2_ownPage 1 = .ok (.iload_n 1, 1) := by decide +kernel
theorem dX2_ownPage_2 : decode cX2_ownPage 2 = .ok (.iload_n 2, 1) := by decide +kernel
theorem dX2_ownPage_3 : decode cX2_ownPage 3 = .ok (.invokevirtual 136, 3) := by decide +kernel
theorem dX2_ownPage_6 : decode cX2_ownPage 6 = .ok (.istore_n 3, 1) := by decide +kernel
theorem dX2_ownPage_7 : decode cX2_ownPage 7 = .ok (.iload_n 3, 1) := by decide +kernel
theorem dX2_ownPage_8 : decode cX2_ownPage 8 = .ok (.invokestatic 124, 3) := by decide +kernel
theorem dX2_ownPage_11 : decode cX2_ownPage 11 = .ok (.ifCond .eq 13, 3) := by decide +kernel
theorem dX2_ownPage_14 : decode cX2_ownPage 14 = .ok (.aload_n 0, 1) := by decide +kernel
theorem dX2_ownPage_15 : decode cX2_ownPage 15 = .ok (.getfield 32, 3) := by decide +kernel
theorem dX2_ownPage_18 : decode cX2_ownPage 18 = .ok (.iload_n 3, 1) := by decide +kernel
theorem dX2_ownPage_19 : decode cX2_ownPage 19 = .ok (.iaload, 1) := by decide +kernel
theorem dX2_ownPage_20 : decode cX2_ownPage 20 = .ok (.iconst 2, 1) := by decide +kernel
theorem dX2_ownPage_21 : decode cX2_ownPage 21 = .ok (.if_icmp .ge 5, 3) := by decide +kernel
theorem dX2_ownPage_24 : decode cX2_ownPage 24 = .ok (.iconst 1, 1) := by decide +kernel
theorem dX2_ownPage_25 : decode cX2_ownPage 25 = .ok (.ireturn, 1) := by decide +kernel
theorem dX2_ownPage_26 : decode cX2_ownPage 26 = .ok (.aload_n 0, 1) := by decide +kernel
theorem dX2_ownPage_27 : decode cX2_ownPage 27 = .ok (.invokevirtual 184, 3) := by decide +kernel
theorem dX2_ownPage_30 : decode cX2_ownPage 30 = .ok (.istore 4, 2) := by decide +kernel
theorem dX2_ownPage_32 : decode cX2_ownPage 32 = .ok (.iload 4, 2) := by decide +kernel
theorem dX2_ownPage_34 : decode cX2_ownPage 34 = .ok (.iconst (-1), 1) := by decide +kernel
theorem dX2_ownPage_35 : decode cX2_ownPage 35 = .ok (.if_icmp .ne 5, 3) := by decide +kernel
theorem dX2_ownPage_38 : decode cX2_ownPage 38 = .ok (.iconst 0, 1) := by decide +kernel
theorem dX2_ownPage_39 : decode cX2_ownPage 39 = .ok (.ireturn, 1) := by decide +kernel
theorem dX2_ownPage_40 : decode cX2_ownPage 40 = .ok (.iconst 0, 1) := by decide +kernel
theorem dX2_ownPage_41 : decode cX2_ownPage 41 = .ok (.istore 5, 2) := by decide +kernel
theorem dX2_ownPage_43 : decode cX2_ownPage 43 = .ok (.iload 5, 2) := by decide +kernel
theorem dX2_ownPage_45 : decode cX2_ownPage 45 = .ok (.bipush 64, 2) := by decide +kernel
theorem dX2_ownPage_47 : decode cX2_ownPage 47 = .ok (.if_icmp .ge 32, 3) := by decide +kernel
theorem dX2_ownPage_50 : decode cX2_ownPage 50 = .ok (.aload_n 0, 1) := by decide +kernel
theorem dX2_ownPage_51 : decode cX2_ownPage 51 = .ok (.iload 4, 2) := by decide +kernel
theorem dX2_ownPage_53 : decode cX2_ownPage 53 = .ok (.bipush 64, 2) := by decide +kernel
theorem dX2_ownPage_55 : decode cX2_ownPage 55 = .ok (.imul, 1) := by decide +kernel
theorem dX2_ownPage_56 : decode cX2_ownPage 56 = .ok (.iload 5, 2) := by decide +kernel
theorem dX2_ownPage_58 : decode cX2_ownPage 58 = .ok (.iadd, 1) := by decide +kernel
theorem dX2_ownPage_59 : decode cX2_ownPage 59 = .ok (.aload_n 0, 1) := by decide +kernel
theorem dX2_ownPage_60 : decode cX2_ownPage 60 = .ok (.iload_n 3, 1) := by decide +kernel
theorem dX2_ownPage_61 : decode cX2_ownPage 61 = .ok (.bipush 64, 2) := by decide +kernel
theorem dX2_ownPage_63 : decode cX2_ownPage 63 = .ok (.imul, 1) := by decide +kernel
theorem dX2_ownPage_64 : decode cX2_ownPage 64 = .ok (.iload 5, 2) := by decide +kernel
theorem dX2_ownPage_66 : decode cX2_ownPage 66 = .ok (.iadd, 1) := by decide +kernel
theorem dX2_ownPage_67 : decode cX2_ownPage 67 = .ok (.invokevirtual 86, 3) := by decide +kernel
theorem dX2_ownPage_70 : decode cX2_ownPage 70 = .ok (.invokevirtual 92, 3) := by decide +kernel
theorem dX2_ownPage_73 : decode cX2_ownPage 73 = .ok (.iinc 5 1, 3) := by decide +kernel
theorem dX2_ownPage_76 : decode cX2_ownPage 76 = .ok (.goto (-33), 3) := by decide +kernel
theorem dX2_ownPage_79 : decode cX2_ownPage 79 = .ok (.aload_n 0, 1) := by decide +kernel
theorem dX2_ownPage_80 : decode cX2_ownPage 80 = .ok (.iload_n 3, 1) := by decide +kernel
theorem dX2_ownPage_81 : decode cX2_ownPage 81 = .ok (.invokevirtual 187, 3) := by decide +kernel
theorem dX2_ownPage_84 : decode cX2_ownPage 84 = .ok (.aload_n 0, 1) := by decide +kernel
theorem dX2_ownPage_85 : decode cX2_ownPage 85 = .ok (.aload_n 0, 1) := by decide +kernel
theorem dX2_ownPage_86 : decode cX2_ownPage 86 = .ok (.iload_n 1, 1) := by decide +kernel
theorem dX2_ownPage_87 : decode cX2_ownPage 87 = .ok (.iload_n 2, 1) := by decide +kernel
theorem dX2_ownPage_88 : decode cX2_ownPage 88 = .ok (.invokevirtual 181, 3) := by decide +kernel
theorem dX2_ownPage_91 : decode cX2_ownPage 91 = .ok (.iload 4, 2) := by decide +kernel
theorem dX2_ownPage_93 : decode cX2_ownPage 93 = .ok (.invokevirtual 92, 3) := by decide +kernel
theorem dX2_ownPage_96 : decode cX2_ownPage 96 = .ok (.aload_n 0, 1) := by decide +kernel
theorem dX2_ownPage_97 : decode cX2_ownPage 97 = .ok (.dup, 1) := by decide +kernel
theorem dX2_ownPage_98 : decode cX2_ownPage 98 = .ok (.getfield 154, 3) := by decide +kernel
theorem dX2_ownPage_101 : decode cX2_ownPage 101 = .ok (.iconst 1, 1) := by decide +kernel
theorem dX2_ownPage_102 : decode cX2_ownPage 102 = .ok (.iadd, 1) := by decide +kernel
theorem dX2_ownPage_103 : decode cX2_ownPage 103 = .ok (.putfield 154, 3) := by decide +kernel
theorem dX2_ownPage_106 : decode cX2_ownPage 106 = .ok (.iconst 1, 1) := by decide +kernel
theorem dX2_ownPage_107 : decode cX2_ownPage 107 = .ok (.ireturn, 1) := by decide +kernel
theorem dX2_addTable_0 : decode cX2_addTable 0 = .ok (.aload_n 0, 1) := by decide +kernel
theorem dX2_addTable_1 : decode cX2_addTable 1 = .ok (.getfield 25, 3) := by decide +kernel
theorem dX2_addTable_4 : decode cX2_addTable 4 = .ok (.invokevirtual 163, 3) := by decide +kernel
theorem dX2_addTable_7 : decode cX2_addTable 7 = .ok (.istore_n 3, 1) := by decide +kernel
theorem dX2_addTable_8 : decode cX2_addTable 8 = .ok (.iload_n 3, 1) := by decide +kernel
theorem dX2_addTable_9 : decode cX2_addTable 9 = .ok (.iconst (-1), 1) := by decide +kernel
theorem dX2_addTable_10 : decode cX2_addTable 10 = .ok (.if_icmp .ne 5, 3) := by decide +kernel
theorem dX2_addTable_13 : decode cX2_addTable 13 = .ok (.iconst 0, 1) := by decide +kernel
theorem dX2_addTable_14 : decode cX2_addTable 14 = .ok (.ireturn, 1) := by decide +kernel
theorem dX2_addTable_15 : decode cX2_addTable 15 = .ok (.aload_n 0, 1) := by decide +kernel
theorem dX2_addTable_16 : decode cX2_addTable 16 = .ok (.aload_n 0, 1) := by decide +kernel
theorem dX2_addTable_17 : decode cX2_addTable 17 = .ok (.iload_n 1, 1) := by decide +kernel
theorem dX2_addTable_18 : decode cX2_addTable 18 = .ok (.iload_n 2, 1) := by decide +kernel
theorem dX2_addTable_19 : decode cX2_addTable 19 = .ok (.invokevirtual 190, 3) := by decide +kernel
theorem dX2_addTable_22 : decode cX2_addTable 22 = .ok (.iload_n 3, 1) := by decide +kernel
theorem dX2_addTable_23 : decode cX2_addTable 23 = .ok (.invokevirtual 92, 3) := by decide +kernel
theorem dX2_addTable_26 : decode cX2_addTable 26 = .ok (.iconst 1, 1) := by decide +kernel
theorem dX2_addTable_27 : decode cX2_addTable 27 = .ok (.ireturn, 1) := by decide +kernel
theorem dX2_dropTable_0 : decode cX2_dropTable 0 = .ok (.aload_n 0, 1) := by decide +kernel
theorem dX2_dropTable_1 : decode cX2_dropTable 1 = .ok (.getfield 25, 3) := by decide +kernel
theorem dX2_dropTable_4 : decode cX2_dropTable 4 = .ok (.aload_n 0, 1) := by decide +kernel
theorem dX2_dropTable_5 : decode cX2_dropTable 5 = .ok (.aload_n 0, 1) := by decide +kernel
theorem dX2_dropTable_6 : decode cX2_dropTable 6 = .ok (.iload_n 1, 1) := by decide +kernel
theorem dX2_dropTable_7 : decode cX2_dropTable 7 = .ok (.iload_n 2, 1) := by decide +kernel
theorem dX2_dropTable_8 : decode cX2_dropTable 8 = .ok (.invokevirtual 190, 3) := by decide +kernel
theorem dX2_dropTable_11 : decode cX2_dropTable 11 = .ok (.invokevirtual 86, 3) := by decide +kernel
theorem dX2_dropTable_14 : decode cX2_dropTable 14 = .ok (.invokevirtual 169, 3) := by decide +kernel
theorem dX2_dropTable_17 : decode cX2_dropTable 17 = .ok (.return_, 1) := by decide +kernel
theorem dX2_takePageFrame_0 : decode cX2_takePageFrame 0 = .ok (.aload_n 0, 1) := by decide +kernel
theorem dX2_takePageFrame_1 : decode cX2_takePageFrame 1 = .ok (.getfield 10, 3) := by decide +kernel
theorem dX2_takePageFrame_4 : decode cX2_takePageFrame 4 = .ok (.iconst 0, 1) := by decide +kernel
theorem dX2_takePageFrame_5 : decode cX2_takePageFrame 5 = .ok (.invokevirtual 121, 3) := by decide +kernel
theorem dX2_takePageFrame_8 : decode cX2_takePageFrame 8 = .ok (.istore_n 1, 1) := by decide +kernel
theorem dX2_takePageFrame_9 : decode cX2_takePageFrame 9 = .ok (.iload_n 1, 1) := by decide +kernel
theorem dX2_takePageFrame_10 : decode cX2_takePageFrame 10 = .ok (.invokestatic 124, 3) := by decide +kernel
theorem dX2_takePageFrame_13 : decode cX2_takePageFrame 13 = .ok (.ifCond .ne 5, 3) := by decide +kernel
theorem dX2_takePageFrame_16 : decode cX2_takePageFrame 16 = .ok (.iconst (-1), 1) := by decide +kernel
theorem dX2_takePageFrame_17 : decode cX2_takePageFrame 17 = .ok (.ireturn, 1) := by decide +kernel
theorem dX2_takePageFrame_18 : decode cX2_takePageFrame 18 = .ok (.aload_n 0, 1) := by decide +kernel
theorem dX2_takePageFrame_19 : decode cX2_takePageFrame 19 = .ok (.getfield 32, 3) := by decide +kernel
theorem dX2_takePageFrame_22 : decode cX2_takePageFrame 22 = .ok (.iload_n 1, 1) := by decide +kernel
theorem dX2_takePageFrame_23 : decode cX2_takePageFrame 23 = .ok (.iconst 1, 1) := by decide +kernel
theorem dX2_takePageFrame_24 : decode cX2_takePageFrame 24 = .ok (.iastore, 1) := by decide +kernel
theorem dX2_takePageFrame_25 : decode cX2_takePageFrame 25 = .ok (.iload_n 1, 1) := by decide +kernel
theorem dX2_takePageFrame_26 : decode cX2_takePageFrame 26 = .ok (.ireturn, 1) := by decide +kernel
theorem dX2_dropPageFrame_0 : decode cX2_dropPageFrame 0 = .ok (.iload_n 1, 1) := by decide +kernel
theorem dX2_dropPageFrame_1 : decode cX2_dropPageFrame 1 = .ok (.invokestatic 124, 3) := by decide +kernel
theorem dX2_dropPageFrame_4 : decode cX2_dropPageFrame 4 = .ok (.ifCond .ne 4, 3) := by decide +kernel
theorem dX2_dropPageFrame_7 : decode cX2_dropPageFrame 7 = .ok (.return_, 1) := by decide +kernel
theorem dX2_dropPageFrame_8 : decode cX2_dropPageFrame 8 = .ok (.aload_n 0, 1) := by decide +kernel
theorem dX2_dropPageFrame_9 : decode cX2_dropPageFrame 9 = .ok (.getfield 32, 3) := by decide +kernel
theorem dX2_dropPageFrame_12 : decode cX2_dropPageFrame 12 = .ok (.iload_n 1, 1) := by decide +kernel
theorem dX2_dropPageFrame_13 : decode cX2_dropPageFrame 13 = .ok (.dup2, 1) := by decide +kernel
theorem dX2_dropPageFrame_14 : decode cX2_dropPageFrame 14 = .ok (.iaload, 1) := by decide +kernel
theorem dX2_dropPageFrame_15 : decode cX2_dropPageFrame 15 = .ok (.iconst 1, 1) := by decide +kernel
theorem dX2_dropPageFrame_16 : decode cX2_dropPageFrame 16 = .ok (.isub, 1) := by decide +kernel
theorem dX2_dropPageFrame_17 : decode cX2_dropPageFrame 17 = .ok (.iastore, 1) := by decide +kernel
theorem dX2_dropPageFrame_18 : decode cX2_dropPageFrame 18 = .ok (.aload_n 0, 1) := by decide +kernel
theorem dX2_dropPageFrame_19 : decode cX2_dropPageFrame 19 = .ok (.getfield 32, 3) := by decide +kernel
theorem dX2_dropPageFrame_22 : decode cX2_dropPageFrame 22 = .ok (.iload_n 1, 1) := by decide +kernel
theorem dX2_dropPageFrame_23 : decode cX2_dropPageFrame 23 = .ok (.iaload, 1) := by decide +kernel
theorem dX2_dropPageFrame_24 : decode cX2_dropPageFrame 24 = .ok (.ifCond .ne 12, 3) := by decide +kernel
theorem dX2_dropPageFrame_27 : decode cX2_dropPageFrame 27 = .ok (.aload_n 0, 1) := by decide +kernel
theorem dX2_dropPageFrame_28 : decode cX2_dropPageFrame 28 = .ok (.getfield 10, 3) := by decide +kernel
theorem dX2_dropPageFrame_31 : decode cX2_dropPageFrame 31 = .ok (.iload_n 1, 1) := by decide +kernel
theorem dX2_dropPageFrame_32 : decode cX2_dropPageFrame 32 = .ok (.iconst 0, 1) := by decide +kernel
theorem dX2_dropPageFrame_33 : decode cX2_dropPageFrame 33 = .ok (.invokevirtual 127, 3) := by decide +kernel
theorem dX2_dropPageFrame_36 : decode cX2_dropPageFrame 36 = .ok (.return_, 1) := by decide +kernel
theorem dX2_pageOf_0 : decode cX2_pageOf 0 = .ok (.iload_n 0, 1) := by decide +kernel
theorem dX2_pageOf_1 : decode cX2_pageOf 1 = .ok (.bipush 6, 2) := by decide +kernel
theorem dX2_pageOf_3 : decode cX2_pageOf 3 = .ok (.ishr, 1) := by decide +kernel
theorem dX2_pageOf_4 : decode cX2_pageOf 4 = .ok (.ireturn, 1) := by decide +kernel
theorem dX2_frameOfPage_0 : decode cX2_frameOfPage 0 = .ok (.aload_n 0, 1) := by decide +kernel
theorem dX2_frameOfPage_1 : decode cX2_frameOfPage 1 = .ok (.iload_n 1, 1) := by decide +kernel
theorem dX2_frameOfPage_2 : decode cX2_frameOfPage 2 = .ok (.iload_n 2, 1) := by decide +kernel
theorem dX2_frameOfPage_3 : decode cX2_frameOfPage 3 = .ok (.invokevirtual 79, 3) := by decide +kernel
theorem dX2_frameOfPage_6 : decode cX2_frameOfPage 6 = .ok (.ifCond .eq 16, 3) := by decide +kernel
theorem dX2_frameOfPage_9 : decode cX2_frameOfPage 9 = .ok (.aload_n 0, 1) := by decide +kernel
theorem dX2_frameOfPage_10 : decode cX2_frameOfPage 10 = .ok (.aload_n 0, 1) := by decide +kernel
theorem dX2_frameOfPage_11 : decode cX2_frameOfPage 11 = .ok (.iload_n 1, 1) := by decide +kernel
theorem dX2_frameOfPage_12 : decode cX2_frameOfPage 12 = .ok (.iload_n 2, 1) := by decide +kernel
theorem dX2_frameOfPage_13 : decode cX2_frameOfPage 13 = .ok (.invokevirtual 181, 3) := by decide +kernel
theorem dX2_frameOfPage_16 : decode cX2_frameOfPage 16 = .ok (.invokevirtual 86, 3) := by decide +kernel
theorem dX2_frameOfPage_19 : decode cX2_frameOfPage 19 = .ok (.goto 4, 3) := by decide +kernel
theorem dX2_frameOfPage_22 : decode cX2_frameOfPage 22 = .ok (.iconst (-1), 1) := by decide +kernel
theorem dX2_frameOfPage_23 : decode cX2_frameOfPage 23 = .ok (.ireturn, 1) := by decide +kernel
theorem dX2_tableIndex_0 : decode cX2_tableIndex 0 = .ok (.aload_n 0, 1) := by decide +kernel
theorem dX2_tableIndex_1 : decode cX2_tableIndex 1 = .ok (.getfield 50, 3) := by decide +kernel
theorem dX2_tableIndex_4 : decode cX2_tableIndex 4 = .ok (.iload_n 1, 1) := by decide +kernel
theorem dX2_tableIndex_5 : decode cX2_tableIndex 5 = .ok (.iaload, 1) := by decide +kernel
theorem dX2_tableIndex_6 : decode cX2_tableIndex 6 = .ok (.bipush 16, 2) := by decide +kernel
theorem dX2_tableIndex_8 : decode cX2_tableIndex 8 = .ok (.imul, 1) := by decide +kernel
theorem dX2_tableIndex_9 : decode cX2_tableIndex 9 = .ok (.iload_n 2, 1) := by decide +kernel
theorem dX2_tableIndex_10 : decode cX2_tableIndex 10 = .ok (.bipush 16, 2) := by decide +kernel
theorem dX2_tableIndex_12 : decode cX2_tableIndex 12 = .ok (.idiv, 1) := by decide +kernel
theorem dX2_tableIndex_13 : decode cX2_tableIndex 13 = .ok (.iadd, 1) := by decide +kernel
theorem dX2_tableIndex_14 : decode cX2_tableIndex 14 = .ok (.ireturn, 1) := by decide +kernel
theorem dX2_pageIndex_0 : decode cX2_pageIndex 0 = .ok (.aload_n 0, 1) := by decide +kernel
theorem dX2_pageIndex_1 : decode cX2_pageIndex 1 = .ok (.aload_n 0, 1) := by decide +kernel
theorem dX2_pageIndex_2 : decode cX2_pageIndex 2 = .ok (.iload_n 1, 1) := by decide +kernel
theorem dX2_pageIndex_3 : decode cX2_pageIndex 3 = .ok (.iload_n 2, 1) := by decide +kernel
theorem dX2_pageIndex_4 : decode cX2_pageIndex 4 = .ok (.invokevirtual 190, 3) := by decide +kernel
theorem dX2_pageIndex_7 : decode cX2_pageIndex 7 = .ok (.invokevirtual 86, 3) := by decide +kernel
theorem dX2_pageIndex_10 : decode cX2_pageIndex 10 = .ok (.bipush 16, 2) := by decide +kernel
theorem dX2_pageIndex_12 : decode cX2_pageIndex 12 = .ok (.imul, 1) := by decide +kernel
theorem dX2_pageIndex_13 : decode cX2_pageIndex 13 = .ok (.iload_n 2, 1) := by decide +kernel
theorem dX2_pageIndex_14 : decode cX2_pageIndex 14 = .ok (.bipush 16, 2) := by decide +kernel
theorem dX2_pageIndex_16 : decode cX2_pageIndex 16 = .ok (.irem, 1) := by decide +kernel
theorem dX2_pageIndex_17 : decode cX2_pageIndex 17 = .ok (.iadd, 1) := by decide +kernel
theorem dX2_pageIndex_18 : decode cX2_pageIndex 18 = .ok (.ireturn, 1) := by decide +kernel
theorem dX2_wordIndex_0 : decode cX2_wordIndex 0 = .ok (.aload_n 0, 1) := by decide +kernel
theorem dX2_wordIndex_1 : decode cX2_wordIndex 1 = .ok (.iload_n 1, 1) := by decide +kernel
theorem dX2_wordIndex_2 : decode cX2_wordIndex 2 = .ok (.iload_n 2, 1) := by decide +kernel
theorem dX2_wordIndex_3 : decode cX2_wordIndex 3 = .ok (.invokestatic 76, 3) := by decide +kernel
theorem dX2_wordIndex_6 : decode cX2_wordIndex 6 = .ok (.invokevirtual 136, 3) := by decide +kernel
theorem dX2_wordIndex_9 : decode cX2_wordIndex 9 = .ok (.bipush 64, 2) := by decide +kernel
theorem dX2_wordIndex_11 : decode cX2_wordIndex 11 = .ok (.imul, 1) := by decide +kernel
theorem dX2_wordIndex_12 : decode cX2_wordIndex 12 = .ok (.iload_n 2, 1) := by decide +kernel
theorem dX2_wordIndex_13 : decode cX2_wordIndex 13 = .ok (.bipush 63, 2) := by decide +kernel
theorem dX2_wordIndex_15 : decode cX2_wordIndex 15 = .ok (.iand, 1) := by decide +kernel
theorem dX2_wordIndex_16 : decode cX2_wordIndex 16 = .ok (.iadd, 1) := by decide +kernel
theorem dX2_wordIndex_17 : decode cX2_wordIndex 17 = .ok (.ireturn, 1) := by decide +kernel
theorem dX2_wordAt_0 : decode cX2_wordAt 0 = .ok (.iload_n 1, 1) := by decide +kernel
theorem dX2_wordAt_1 : decode cX2_wordAt 1 = .ok (.ifCond .lt 21, 3) := by decide +kernel
theorem dX2_wordAt_4 : decode cX2_wordAt 4 = .ok (.iload_n 1, 1) := by decide +kernel
theorem dX2_wordAt_5 : decode cX2_wordAt 5 = .ok (.aload_n 0, 1) := by decide +kernel
theorem dX2_wordAt_6 : decode cX2_wordAt 6 = .ok (.getfield 28, 3) := by decide +kernel
theorem dX2_wordAt_9 : decode cX2_wordAt 9 = .ok (.arraylength, 1) := by decide +kernel
theorem dX2_wordAt_10 : decode cX2_wordAt 10 = .ok (.if_icmp .ge 12, 3) := by decide +kernel
theorem dX2_wordAt_13 : decode cX2_wordAt 13 = .ok (.aload_n 0, 1) := by decide +kernel
theorem dX2_wordAt_14 : decode cX2_wordAt 14 = .ok (.getfield 28, 3) := by decide +kernel
theorem dX2_wordAt_17 : decode cX2_wordAt 17 = .ok (.iload_n 1, 1) := by decide +kernel
theorem dX2_wordAt_18 : decode cX2_wordAt 18 = .ok (.iaload, 1) := by decide +kernel
theorem dX2_wordAt_19 : decode cX2_wordAt 19 = .ok (.goto 4, 3) := by decide +kernel
theorem dX2_wordAt_22 : decode cX2_wordAt 22 = .ok (.iconst 0, 1) := by decide +kernel
theorem dX2_wordAt_23 : decode cX2_wordAt 23 = .ok (.ireturn, 1) := by decide +kernel
theorem dX2_setWord_0 : decode cX2_setWord 0 = .ok (.iload_n 1, 1) := by decide +kernel
theorem dX2_setWord_1 : decode cX2_setWord 1 = .ok (.ifCond .lt 19, 3) := by decide +kernel
theorem dX2_setWord_4 : decode cX2_setWord 4 = .ok (.iload_n 1, 1) := by decide +kernel
theorem dX2_setWord_5 : decode cX2_setWord 5 = .ok (.aload_n 0, 1) := by decide +kernel
theorem dX2_setWord_6 : decode cX2_setWord 6 = .ok (.getfield 28, 3) := by decide +kernel
theorem dX2_setWord_9 : decode cX2_setWord 9 = .ok (.arraylength, 1) := by decide +kernel
theorem dX2_setWord_10 : decode cX2_setWord 10 = .ok (.if_icmp .ge 10, 3) := by decide +kernel
theorem dX2_setWord_13 : decode cX2_setWord 13 = .ok (.aload_n 0, 1) := by decide +kernel
theorem dX2_setWord_14 : decode cX2_setWord 14 = .ok (.getfield 28, 3) := by decide +kernel
theorem dX2_setWord_17 : decode cX2_setWord 17 = .ok (.iload_n 1, 1) := by decide +kernel
theorem dX2_setWord_18 : decode cX2_setWord 18 = .ok (.iload_n 2, 1) := by decide +kernel
theorem dX2_setWord_19 : decode cX2_setWord 19 = .ok (.iastore, 1) := by decide +kernel
theorem dX2_setWord_20 : decode cX2_setWord 20 = .ok (.return_, 1) := by decide +kernel
theorem dX2_kindOf_0 : decode cX2_kindOf 0 = .ok (.aload_n 0, 1) := by decide +kernel
theorem dX2_kindOf_1 : decode cX2_kindOf 1 = .ok (.getfield 21, 3) := by decide +kernel
theorem dX2_kindOf_4 : decode cX2_kindOf 4 = .ok (.iload_n 1, 1) := by decide +kernel
theorem dX2_kindOf_5 : decode cX2_kindOf 5 = .ok (.invokevirtual 142, 3) := by decide +kernel
theorem dX2_kindOf_8 : decode cX2_kindOf 8 = .ok (.ifCond .le 5, 3) := by decide +kernel
theorem dX2_kindOf_11 : decode cX2_kindOf 11 = .ok (.iconst 1, 1) := by decide +kernel
theorem dX2_kindOf_12 : decode cX2_kindOf 12 = .ok (.ireturn, 1) := by decide +kernel
theorem dX2_kindOf_13 : decode cX2_kindOf 13 = .ok (.aload_n 0, 1) := by decide +kernel
theorem dX2_kindOf_14 : decode cX2_kindOf 14 = .ok (.getfield 25, 3) := by decide +kernel
theorem dX2_kindOf_17 : decode cX2_kindOf 17 = .ok (.iload_n 1, 1) := by decide +kernel
theorem dX2_kindOf_18 : decode cX2_kindOf 18 = .ok (.invokevirtual 142, 3) := by decide +kernel
theorem dX2_kindOf_21 : decode cX2_kindOf 21 = .ok (.ifCond .le 5, 3) := by decide +kernel
theorem dX2_kindOf_24 : decode cX2_kindOf 24 = .ok (.iconst 2, 1) := by decide +kernel
theorem dX2_kindOf_25 : decode cX2_kindOf 25 = .ok (.ireturn, 1) := by decide +kernel
theorem dX2_kindOf_26 : decode cX2_kindOf 26 = .ok (.iload_n 1, 1) := by decide +kernel
theorem dX2_kindOf_27 : decode cX2_kindOf 27 = .ok (.invokestatic 124, 3) := by decide +kernel
theorem dX2_kindOf_30 : decode cX2_kindOf 30 = .ok (.ifCond .eq 14, 3) := by decide +kernel
theorem dX2_kindOf_33 : decode cX2_kindOf 33 = .ok (.aload_n 0, 1) := by decide +kernel
theorem dX2_kindOf_34 : decode cX2_kindOf 34 = .ok (.getfield 32, 3) := by decide +kernel
theorem dX2_kindOf_37 : decode cX2_kindOf 37 = .ok (.iload_n 1, 1) := by decide +kernel
theorem dX2_kindOf_38 : decode cX2_kindOf 38 = .ok (.iaload, 1) := by decide +kernel
theorem dX2_kindOf_39 : decode cX2_kindOf 39 = .ok (.ifCond .le 5, 3) := by decide +kernel
theorem dX2_kindOf_42 : decode cX2_kindOf 42 = .ok (.iconst 3, 1) := by decide +kernel
theorem dX2_kindOf_43 : decode cX2_kindOf 43 = .ok (.ireturn, 1) := by decide +kernel
theorem dX2_kindOf_44 : decode cX2_kindOf 44 = .ok (.aload_n 0, 1) := by decide +kernel
theorem dX2_kindOf_45 : decode cX2_kindOf 45 = .ok (.iload_n 1, 1) := by decide +kernel
theorem dX2_kindOf_46 : decode cX2_kindOf 46 = .ok (.invokevirtual 193, 3) := by decide +kernel
theorem dX2_kindOf_49 : decode cX2_kindOf 49 = .ok (.ifCond .eq 7, 3) := by decide +kernel
theorem dX2_kindOf_52 : decode cX2_kindOf 52 = .ok (.iconst 4, 1) := by decide +kernel
theorem dX2_kindOf_53 : decode cX2_kindOf 53 = .ok (.goto 4, 3) := by decide +kernel
theorem dX2_kindOf_56 : decode cX2_kindOf 56 = .ok (.iconst 0, 1) := by decide +kernel
theorem dX2_kindOf_57 : decode cX2_kindOf 57 = .ok (.ireturn, 1) := by decide +kernel
theorem dX2_isKernels_0 : decode cX2_isKernels 0 = .ok (.iconst 0, 1) := by decide +kernel
theorem dX2_isKernels_1 : decode cX2_isKernels 1 = .ok (.istore_n 2, 1) := by decide +kernel
theorem dX2_isKernels_2 : decode cX2_isKernels 2 = .ok (.iload_n 2, 1) := by decide +kernel
theorem dX2_isKernels_3 : decode cX2_isKernels 3 = .ok (.bipush 7, 2) := by decide +kernel
theorem dX2_isKernels_5 : decode cX2_isKernels 5 = .ok (.if_icmp .gt 34, 3) := by decide +kernel
theorem dX2_isKernels_8 : decode cX2_isKernels 8 = .ok (.iload_n 1, 1) := by decide +kernel
theorem dX2_isKernels_9 : decode cX2_isKernels 9 = .ok (.iload_n 2, 1) := by decide +kernel
theorem dX2_isKernels_10 : decode cX2_isKernels 10 = .ok (.ishr, 1) := by decide +kernel
theorem dX2_isKernels_11 : decode cX2_isKernels 11 = .ok (.iload_n 2, 1) := by decide +kernel
theorem dX2_isKernels_12 : decode cX2_isKernels 12 = .ok (.ishl, 1) := by decide +kernel
theorem dX2_isKernels_13 : decode cX2_isKernels 13 = .ok (.istore_n 3, 1) := by decide +kernel
theorem dX2_isKernels_14 : decode cX2_isKernels 14 = .ok (.iload_n 3, 1) := by decide +kernel
theorem dX2_isKernels_15 : decode cX2_isKernels 15 = .ok (.invokestatic 124, 3) := by decide +kernel
theorem dX2_isKernels_18 : decode cX2_isKernels 18 = .ok (.ifCond .eq 15, 3) := by decide +kernel
theorem dX2_isKernels_21 : decode cX2_isKernels 21 = .ok (.aload_n 0, 1) := by decide +kernel
theorem dX2_isKernels_22 : decode cX2_isKernels 22 = .ok (.getfield 35, 3) := by decide +kernel
theorem dX2_isKernels_25 : decode cX2_isKernels 25 = .ok (.iload_n 3, 1) := by decide +kernel
theorem dX2_isKernels_26 : decode cX2_isKernels 26 = .ok (.iaload, 1) := by decide +kernel
theorem dX2_isKernels_27 : decode cX2_isKernels 27 = .ok (.iload_n 2, 1) := by decide +kernel
theorem dX2_isKernels_28 : decode cX2_isKernels 28 = .ok (.if_icmp .ne 5, 3) := by decide +kernel
theorem dX2_isKernels_31 : decode cX2_isKernels 31 = .ok (.iconst 1, 1) := by decide +kernel
theorem dX2_isKernels_32 : decode cX2_isKernels 32 = .ok (.ireturn, 1) := by decide +kernel
theorem dX2_isKernels_33 : decode cX2_isKernels 33 = .ok (.iinc 2 1, 3) := by decide +kernel
theorem dX2_isKernels_36 : decode cX2_isKernels 36 = .ok (.goto (-34), 3) := by decide +kernel
theorem dX2_isKernels_39 : decode cX2_isKernels 39 = .ok (.iconst 0, 1) := by decide +kernel
theorem dX2_isKernels_40 : decode cX2_isKernels 40 = .ok (.ireturn, 1) := by decide +kernel
end
section
theorem dX3_init_0 : decode cX3_init 0 = .ok (.aload_n 0, 1) := by decide +kernel
theorem dX3_init_1 : decode cX3_init 1 = .ok (.invokespecial 1, 3) := by decide +kernel
theorem dX3_init_4 : decode cX3_init 4 = .ok (.aload_n 0, 1) := by decide +kernel
theorem dX3_init_5 : decode cX3_init 5 = .ok (.sipush 1024, 3) := by decide +kernel
theorem dX3_init_8 : decode cX3_init 8 = .ok (.newarray .boolean, 2) := by decide +kernel
theorem dX3_init_10 : decode cX3_init 10 = .ok (.putfield 7, 3) := by decide +kernel
theorem dX3_init_13 : decode cX3_init 13 = .ok (.aload_n 0, 1) := by decide +kernel
theorem dX3_init_14 : decode cX3_init 14 = .ok (.sipush 128, 3) := by decide +kernel
theorem dX3_init_17 : decode cX3_init 17 = .ok (.newarray .int, 2) := by decide +kernel
theorem dX3_init_19 : decode cX3_init 19 = .ok (.putfield 13, 3) := by decide +kernel
theorem dX3_init_22 : decode cX3_init 22 = .ok (.aload_n 0, 1) := by decide +kernel
theorem dX3_init_23 : decode cX3_init 23 = .ok (.sipush 512, 3) := by decide +kernel
theorem dX3_init_26 : decode cX3_init 26 = .ok (.newarray .boolean, 2) := by decide +kernel
theorem dX3_init_28 : decode cX3_init 28 = .ok (.putfield 17, 3) := by decide +kernel
theorem dX3_init_31 : decode cX3_init 31 = .ok (.aload_n 0, 1) := by decide +kernel
theorem dX3_init_32 : decode cX3_init 32 = .ok (.sipush 8192, 3) := by decide +kernel
theorem dX3_init_35 : decode cX3_init 35 = .ok (.newarray .int, 2) := by decide +kernel
theorem dX3_init_37 : decode cX3_init 37 = .ok (.putfield 20, 3) := by decide +kernel
theorem dX3_init_40 : decode cX3_init 40 = .ok (.aload_n 0, 1) := by decide +kernel
theorem dX3_init_41 : decode cX3_init 41 = .ok (.sipush 128, 3) := by decide +kernel
theorem dX3_init_44 : decode cX3_init 44 = .ok (.newarray .int, 2) := by decide +kernel
theorem dX3_init_46 : decode cX3_init 46 = .ok (.putfield 23, 3) := by decide +kernel
theorem dX3_init_49 : decode cX3_init 49 = .ok (.aload_n 0, 1) := by decide +kernel
theorem dX3_init_50 : decode cX3_init 50 = .ok (.bipush 16, 2) := by decide +kernel
theorem dX3_init_52 : decode cX3_init 52 = .ok (.newarray .int, 2) := by decide +kernel
theorem dX3_init_54 : decode cX3_init 54 = .ok (.putfield 26, 3) := by decide +kernel
theorem dX3_init_57 : decode cX3_init 57 = .ok (.aload_n 0, 1) := by decide +kernel
theorem dX3_init_58 : decode cX3_init 58 = .ok (.bipush 16, 2) := by decide +kernel
theorem dX3_init_60 : decode cX3_init 60 = .ok (.newarray .int, 2) := by decide +kernel
theorem dX3_init_62 : decode cX3_init 62 = .ok (.putfield 29, 3) := by decide +kernel
theorem dX3_init_65 : decode cX3_init 65 = .ok (.aload_n 0, 1) := by decide +kernel
theorem dX3_init_66 : decode cX3_init 66 = .ok (.bipush 16, 2) := by decide +kernel
theorem dX3_init_68 : decode cX3_init 68 = .ok (.newarray .int, 2) := by decide +kernel
theorem dX3_init_70 : decode cX3_init 70 = .ok (.putfield 32, 3) := by decide +kernel
theorem dX3_init_73 : decode cX3_init 73 = .ok (.aload_n 0, 1) := by decide +kernel
theorem dX3_init_74 : decode cX3_init 74 = .ok (.bipush 16, 2) := by decide +kernel
theorem dX3_init_76 : decode cX3_init 76 = .ok (.newarray .int, 2) := by decide +kernel
theorem dX3_init_78 : decode cX3_init 78 = .ok (.putfield 35, 3) := by decide +kernel
theorem dX3_init_81 : decode cX3_init 81 = .ok (.aload_n 0, 1) := by decide +kernel
theorem dX3_init_82 : decode cX3_init 82 = .ok (.bipush 16, 2) := by decide +kernel
theorem dX3_init_84 : decode cX3_init 84 = .ok (.newarray .int, 2) := by decide +kernel
theorem dX3_init_86 : decode cX3_init 86 = .ok (.putfield 38, 3) := by decide +kernel
theorem dX3_init_89 : decode cX3_init 89 = .ok (.aload_n 0, 1) := by decide +kernel
theorem dX3_init_90 : decode cX3_init 90 = .ok (.sipush 4096, 3) := by decide +kernel
theorem dX3_init_93 : decode cX3_init 93 = .ok (.newarray .int, 2) := by decide +kernel
theorem dX3_init_95 : decode cX3_init 95 = .ok (.putfield 41, 3) := by decide +kernel
theorem dX3_init_98 : decode cX3_init 98 = .ok (.aload_n 0, 1) := by decide +kernel
theorem dX3_init_99 : decode cX3_init 99 = .ok (.sipush 256, 3) := by decide +kernel
theorem dX3_init_102 : decode cX3_init 102 = .ok (.newarray .int, 2) := by decide +kernel
theorem dX3_init_104 : decode cX3_init 104 = .ok (.putfield 44, 3) := by decide +kernel
theorem dX3_init_107 : decode cX3_init 107 = .ok (.aload_n 0, 1) := by decide +kernel
theorem dX3_init_108 : decode cX3_init 108 = .ok (.bipush 16, 2) := by decide +kernel
theorem dX3_init_110 : decode cX3_init 110 = .ok (.newarray .int, 2) := by decide +kernel
theorem dX3_init_112 : decode cX3_init 112 = .ok (.putfield 47, 3) := by decide +kernel
theorem dX3_init_115 : decode cX3_init 115 = .ok (.aload_n 0, 1) := by decide +kernel
theorem dX3_init_116 : decode cX3_init 116 = .ok (.sipush 1024, 3) := by decide +kernel
theorem dX3_init_119 : decode cX3_init 119 = .ok (.newarray .boolean, 2) := by decide +kernel
theorem dX3_init_121 : decode cX3_init 121 = .ok (.putfield 50, 3) := by decide +kernel
theorem dX3_init_124 : decode cX3_init 124 = .ok (.aload_n 0, 1) := by decide +kernel
theorem dX3_init_125 : decode cX3_init 125 = .ok (.sipush 128, 3) := by decide +kernel
theorem dX3_init_128 : decode cX3_init 128 = .ok (.newarray .int, 2) := by decide +kernel
theorem dX3_init_130 : decode cX3_init 130 = .ok (.putfield 53, 3) := by decide +kernel
theorem dX3_init_133 : decode cX3_init 133 = .ok (.aload_n 0, 1) := by decide +kernel
theorem dX3_init_134 : decode cX3_init 134 = .ok (.sipush 512, 3) := by decide +kernel
theorem dX3_init_137 : decode cX3_init 137 = .ok (.newarray .boolean, 2) := by decide +kernel
theorem dX3_init_139 : decode cX3_init 139 = .ok (.putfield 56, 3) := by decide +kernel
theorem dX3_init_142 : decode cX3_init 142 = .ok (.aload_n 0, 1) := by decide +kernel
theorem dX3_init_143 : decode cX3_init 143 = .ok (.getfield 7, 3) := by decide +kernel
theorem dX3_init_146 : decode cX3_init 146 = .ok (.sipush 896, 3) := by decide +kernel
theorem dX3_init_149 : decode cX3_init 149 = .ok (.iconst 1, 1) := by decide +kernel
theorem dX3_init_150 : decode cX3_init 150 = .ok (.bastore, 1) := by decide +kernel
theorem dX3_init_151 : decode cX3_init 151 = .ok (.iconst 0, 1) := by decide +kernel
theorem dX3_init_152 : decode cX3_init 152 = .ok (.istore_n 1, 1) := by decide +kernel
theorem dX3_init_153 : decode cX3_init 153 = .ok (.iload_n 1, 1) := by decide +kernel
theorem dX3_init_154 : decode cX3_init 154 = .ok (.sipush 128, 3) := by decide +kernel
theorem dX3_init_157 : decode cX3_init 157 = .ok (.if_icmp .ge 16, 3) := by decide +kernel
theorem dX3_init_160 : decode cX3_init 160 = .ok (.aload_n 0, 1) := by decide +kernel
theorem dX3_init_161 : decode cX3_init 161 = .ok (.getfield 23, 3) := by decide +kernel
theorem dX3_init_164 : decode cX3_init 164 = .ok (.iload_n 1, 1) := by decide +kernel
theorem dX3_init_165 : decode cX3_init 165 = .ok (.iconst (-1), 1) := by decide +kernel
theorem dX3_init_166 : decode cX3_init 166 = .ok (.iastore, 1) := by decide +kernel
theorem dX3_init_167 : decode cX3_init 167 = .ok (.iinc 1 1, 3) := by decide +kernel
theorem dX3_init_170 : decode cX3_init 170 = .ok (.goto (-17), 3) := by decide +kernel
theorem dX3_init_173 : decode cX3_init 173 = .ok (.return_, 1) := by decide +kernel
theorem dX3_takeBlock_0 : decode cX3_takeBlock 0 = .ok (.iload_n 1, 1) := by decide +kernel
theorem dX3_takeBlock_1 : decode cX3_takeBlock 1 = .ok (.istore_n 2, 1) := by decide +kernel
theorem dX3_takeBlock_2 : decode cX3_takeBlock 2 = .ok (.iload_n 2, 1) := by decide +kernel
theorem dX3_takeBlock_3 : decode cX3_takeBlock 3 = .ok (.bipush 8, 2) := by decide +kernel
theorem dX3_takeBlock_5 : decode cX3_takeBlock 5 = .ok (.if_icmp .ge 90, 3) := by decide +kernel
theorem dX3_takeBlock_8 : decode cX3_takeBlock 8 = .ok (.iconst 0, 1) := by decide +kernel
theorem dX3_takeBlock_9 : decode cX3_takeBlock 9 = .ok (.istore_n 3, 1) := by decide +kernel
theorem dX3_takeBlock_10 : decode cX3_takeBlock 10 = .ok (.iload_n 3, 1) := by decide +kernel
theorem dX3_takeBlock_11 : decode cX3_takeBlock 11 = .ok (.sipush 128, 3) := by decide +kernel
theorem dX3_takeBlock_14 : decode cX3_takeBlock 14 = .ok (.if_icmp .ge 75, 3) := by decide +kernel
theorem dX3_takeBlock_17 : decode cX3_takeBlock 17 = .ok (.aload_n 0, 1) := by decide +kernel
theorem dX3_takeBlock_18 : decode cX3_takeBlock 18 = .ok (.getfield 7, 3) := by decide +kernel
theorem dX3_takeBlock_21 : decode cX3_takeBlock 21 = .ok (.sipush 128, 3) := by decide +kernel
theorem dX3_takeBlock_24 : decode cX3_takeBlock 24 = .ok (.iload_n 2, 1) := by decide +kernel
theorem dX3_takeBlock_25 : decode cX3_takeBlock 25 = .ok (.imul, 1) := by decide +kernel
theorem dX3_takeBlock_26 : decode cX3_takeBlock 26 = .ok (.iload_n 3, 1) := by decide +kernel
theorem dX3_takeBlock_27 : decode cX3_takeBlock 27 = .ok (.iadd, 1) := by decide +kernel
theorem dX3_takeBlock_28 : decode cX3_takeBlock 28 = .ok (.baload, 1) := by decide +kernel
theorem dX3_takeBlock_29 : decode cX3_takeBlock 29 = .ok (.ifCond .eq 54, 3) := by decide +kernel
theorem dX3_takeBlock_32 : decode cX3_takeBlock 32 = .ok (.aload_n 0, 1) := by decide +kernel
theorem dX3_takeBlock_33 : decode cX3_takeBlock 33 = .ok (.getfield 7, 3) := by decide +kernel
theorem dX3_takeBlock_36 : decode cX3_takeBlock 36 = .ok (.sipush 128, 3) := by decide +kernel
theorem dX3_takeBlock_39 : decode cX3_takeBlock 39 = .ok (.iload_n 2, 1) := by decide +kernel
theorem dX3_takeBlock_40 : decode cX3_takeBlock 40 = .ok (.imul, 1) := by decide +kernel
theorem dX3_takeBlock_41 : decode cX3_takeBlock 41 = .ok (.iload_n 3, 1) := by decide +kernel
theorem dX3_takeBlock_42 : decode cX3_takeBlock 42 = .ok (.iadd, 1) := by decide +kernel
theorem dX3_takeBlock_43 : decode cX3_takeBlock 43 = .ok (.iconst 0, 1) := by decide +kernel
theorem dX3_takeBlock_44 : decode cX3_takeBlock 44 = .ok (.bastore, 1) := by decide +kernel
theorem dX3_takeBlock_45 : decode cX3_takeBlock 45 = .ok (.iload_n 2, 1) := by decide +kernel
theorem dX3_takeBlock_46 : decode cX3_takeBlock 46 = .ok (.iconst 1, 1) := by decide +kernel
theorem dX3_takeBlock_47 : decode cX3_takeBlock 47 = .ok (.isub, 1) := by decide +kernel
theorem dX3_takeBlock_48 : decode cX3_takeBlock 48 = .ok (.istore 4, 2) := by decide +kernel
theorem dX3_takeBlock_50 : decode cX3_takeBlock 50 = .ok (.iload 4, 2) := by decide +kernel
theorem dX3_takeBlock_52 : decode cX3_takeBlock 52 = .ok (.iload_n 1, 1) := by decide +kernel
theorem dX3_takeBlock_53 : decode cX3_takeBlock 53 = .ok (.if_icmp .lt 28, 3) := by decide +kernel
theorem dX3_takeBlock_56 : decode cX3_takeBlock 56 = .ok (.aload_n 0, 1) := by decide +kernel
theorem dX3_takeBlock_57 : decode cX3_takeBlock 57 = .ok (.getfield 7, 3) := by decide +kernel
theorem dX3_takeBlock_60 : decode cX3_takeBlock 60 = .ok (.sipush 128, 3) := by decide +kernel
theorem dX3_takeBlock_63 : decode cX3_takeBlock 63 = .ok (.iload 4, 2) := by decide +kernel
theorem dX3_takeBlock_65 : decode cX3_takeBlock 65 = .ok (.imul, 1) := by decide +kernel
theorem dX3_takeBlock_66 : decode cX3_takeBlock 66 = .ok (.iload_n 3, 1) := by decide +kernel
theorem dX3_takeBlock_67 : decode cX3_takeBlock 67 = .ok (.iadd, 1) := by decide +kernel
theorem dX3_takeBlock_68 : decode cX3_takeBlock 68 = .ok (.iconst 1, 1) := by decide +kernel
theorem dX3_takeBlock_69 : decode cX3_takeBlock 69 = .ok (.iload 4, 2) := by decide +kernel
theorem dX3_takeBlock_71 : decode cX3_takeBlock 71 = .ok (.ishl, 1) := by decide +kernel
theorem dX3_takeBlock_72 : decode cX3_takeBlock 72 = .ok (.iadd, 1) := by decide +kernel
theorem dX3_takeBlock_73 : decode cX3_takeBlock 73 = .ok (.iconst 1, 1) := by decide +kernel
theorem dX3_takeBlock_74 : decode cX3_takeBlock 74 = .ok (.bastore, 1) := by decide +kernel
theorem dX3_takeBlock_75 : decode cX3_takeBlock 75 = .ok (.iinc 4 (-1), 3) := by decide +kernel
theorem dX3_takeBlock_78 : decode cX3_takeBlock 78 = .ok (.goto (-28), 3) := by decide +kernel
theorem dX3_takeBlock_81 : decode cX3_takeBlock 81 = .ok (.iload_n 3, 1) := by decide +kernel
theorem dX3_takeBlock_82 : decode cX3_takeBlock 82 = .ok (.ireturn, 1) := by decide +kernel
theorem dX3_takeBlock_83 : decode cX3_takeBlock 83 = .ok (.iinc 3 1, 3) := by decide +kernel
theorem dX3_takeBlock_86 : decode cX3_takeBlock 86 = .ok (.goto (-76), 3) := by decide +kernel
theorem dX3_takeBlock_89 : decode cX3_takeBlock 89 = .ok (.iinc 2 1, 3) := by decide +kernel
theorem dX3_takeBlock_92 : decode cX3_takeBlock 92 = .ok (.goto (-90), 3) := by decide +kernel
theorem dX3_takeBlock_95 : decode cX3_takeBlock 95 = .ok (.iconst (-1), 1) := by decide +kernel
theorem dX3_takeBlock_96 : decode cX3_takeBlock 96 = .ok (.ireturn, 1) := by decide +kernel
theorem dX3_giveBlock_0 : decode cX3_giveBlock 0 = .ok (.iload_n 1, 1) := by decide +kernel
theorem dX3_giveBlock_1 : decode cX3_giveBlock 1 = .ok (.istore_n 3, 1) := by decide +kernel
theorem dX3_giveBlock_2 : decode cX3_giveBlock 2 = .ok (.iload_n 2, 1) := by decide +kernel
theorem dX3_giveBlock_3 : decode cX3_giveBlock 3 = .ok (.istore 4, 2) := by decide +kernel
theorem dX3_giveBlock_5 : decode cX3_giveBlock 5 = .ok (.iload_n 1, 1) := by decide +kernel
theorem dX3_giveBlock_6 : decode cX3_giveBlock 6 = .ok (.istore 5, 2) := by decide +kernel
theorem dX3_giveBlock_8 : decode cX3_giveBlock 8 = .ok (.iload 5, 2) := by decide +kernel
theorem dX3_giveBlock_10 : decode cX3_giveBlock 10 = .ok (.iload_n 1, 1) := by decide +kernel
theorem dX3_giveBlock_11 : decode cX3_giveBlock 11 = .ok (.iconst 1, 1) := by decide +kernel
theorem dX3_giveBlock_12 : decode cX3_giveBlock 12 = .ok (.iload_n 2, 1) := by decide +kernel
theorem dX3_giveBlock_13 : decode cX3_giveBlock 13 = .ok (.ishl, 1) := by decide +kernel
theorem dX3_giveBlock_14 : decode cX3_giveBlock 14 = .ok (.iadd, 1) := by decide +kernel
theorem dX3_giveBlock_15 : decode cX3_giveBlock 15 = .ok (.if_icmp .ge 17, 3) := by decide +kernel
theorem dX3_giveBlock_18 : decode cX3_giveBlock 18 = .ok (.aload_n 0, 1) := by decide +kernel
theorem dX3_giveBlock_19 : decode cX3_giveBlock 19 = .ok (.getfield 13, 3) := by decide +kernel
theorem dX3_giveBlock_22 : decode cX3_giveBlock 22 = .ok (.iload 5, 2) := by decide +kernel
theorem dX3_giveBlock_24 : decode cX3_giveBlock 24 = .ok (.iconst 0, 1) := by decide +kernel
theorem dX3_giveBlock_25 : decode cX3_giveBlock 25 = .ok (.iastore, 1) := by decide +kernel
theorem dX3_giveBlock_26 : decode cX3_giveBlock 26 = .ok (.iinc 5 1, 3) := by decide +kernel
theorem dX3_giveBlock_29 : decode cX3_giveBlock 29 = .ok (.goto (-21), 3) := by decide +kernel
theorem dX3_giveBlock_32 : decode cX3_giveBlock 32 = .ok (.iload 4, 2) := by decide +kernel
theorem dX3_giveBlock_34 : decode cX3_giveBlock 34 = .ok (.bipush 7, 2) := by decide +kernel
theorem dX3_giveBlock_36 : decode cX3_giveBlock 36 = .ok (.if_icmp .ge 58, 3) := by decide +kernel
theorem dX3_giveBlock_39 : decode cX3_giveBlock 39 = .ok (.aload_n 0, 1) := by decide +kernel
theorem dX3_giveBlock_40 : decode cX3_giveBlock 40 = .ok (.getfield 7, 3) := by decide +kernel
theorem dX3_giveBlock_43 : decode cX3_giveBlock 43 = .ok (.sipush 128, 3) := by decide +kernel
theorem dX3_giveBlock_46 : decode cX3_giveBlock 46 = .ok (.iload 4, 2) := by decide +kernel
theorem dX3_giveBlock_48 : decode cX3_giveBlock 48 = .ok (.imul, 1) := by decide +kernel
theorem dX3_giveBlock_49 : decode cX3_giveBlock 49 = .ok (.iload_n 3, 1) := by decide +kernel
theorem dX3_giveBlock_50 : decode cX3_giveBlock 50 = .ok (.iconst 1, 1) := by decide +kernel
theorem dX3_giveBlock_51 : decode cX3_giveBlock 51 = .ok (.iload 4, 2) := by decide +kernel
theorem dX3_giveBlock_53 : decode cX3_giveBlock 53 = .ok (.ishl, 1) := by decide +kernel
theorem dX3_giveBlock_54 : decode cX3_giveBlock 54 = .ok (.ixor, 1) := by decide +kernel
theorem dX3_giveBlock_55 : decode cX3_giveBlock 55 = .ok (.iadd, 1) := by decide +kernel
theorem dX3_giveBlock_56 : decode cX3_giveBlock 56 = .ok (.baload, 1) := by decide +kernel
theorem dX3_giveBlock_57 : decode cX3_giveBlock 57 = .ok (.ifCond .eq 37, 3) := by decide +kernel
theorem dX3_giveBlock_60 : decode cX3_giveBlock 60 = .ok (.aload_n 0, 1) := by decide +kernel
theorem dX3_giveBlock_61 : decode cX3_giveBlock 61 = .ok (.getfield 7, 3) := by decide +kernel
theorem dX3_giveBlock_64 : decode cX3_giveBlock 64 = .ok (.sipush 128, 3) := by decide +kernel
theorem dX3_giveBlock_67 : decode cX3_giveBlock 67 = .ok (.iload 4, 2) := by decide +kernel
theorem dX3_giveBlock_69 : decode cX3_giveBlock 69 = .ok (.imul, 1) := by decide +kernel
theorem dX3_giveBlock_70 : decode cX3_giveBlock 70 = .ok (.iload_n 3, 1) := by decide +kernel
theorem dX3_giveBlock_71 : decode cX3_giveBlock 71 = .ok (.iconst 1, 1) := by decide +kernel
theorem dX3_giveBlock_72 : decode cX3_giveBlock 72 = .ok (.iload 4, 2) := by decide +kernel
theorem dX3_giveBlock_74 : decode cX3_giveBlock 74 = .ok (.ishl, 1) := by decide +kernel
theorem dX3_giveBlock_75 : decode cX3_giveBlock 75 = .ok (.ixor, 1) := by decide +kernel
theorem dX3_giveBlock_76 : decode cX3_giveBlock 76 = .ok (.iadd, 1) := by decide +kernel
theorem dX3_giveBlock_77 : decode cX3_giveBlock 77 = .ok (.iconst 0, 1) := by decide +kernel
theorem dX3_giveBlock_78 : decode cX3_giveBlock 78 = .ok (.bastore, 1) := by decide +kernel
theorem dX3_giveBlock_79 : decode cX3_giveBlock 79 = .ok (.iload_n 3, 1) := by decide +kernel
theorem dX3_giveBlock_80 : decode cX3_giveBlock 80 = .ok (.iconst 1, 1) := by decide +kernel
theorem dX3_giveBlock_81 : decode cX3_giveBlock 81 = .ok (.iload 4, 2) := by decide +kernel
theorem dX3_giveBlock_83 : decode cX3_giveBlock 83 = .ok (.ishl, 1) := by decide +kernel
theorem dX3_giveBlock_84 : decode cX3_giveBlock 84 = .ok (.iconst (-1), 1) := by decide +kernel
theorem dX3_giveBlock_85 : decode cX3_giveBlock 85 = .ok (.ixor, 1) := by decide +kernel
theorem dX3_giveBlock_86 : decode cX3_giveBlock 86 = .ok (.iand, 1) := by decide +kernel
theorem dX3_giveBlock_87 : decode cX3_giveBlock 87 = .ok (.istore_n 3, 1) := by decide +kernel
theorem dX3_giveBlock_88 : decode cX3_giveBlock 88 = .ok (.iinc 4 1, 3) := by decide +kernel
theorem dX3_giveBlock_91 : decode cX3_giveBlock 91 = .ok (.goto (-59), 3) := by decide +kernel
theorem dX3_giveBlock_94 : decode cX3_giveBlock 94 = .ok (.aload_n 0, 1) := by decide +kernel
theorem dX3_giveBlock_95 : decode cX3_giveBlock 95 = .ok (.getfield 7, 3) := by decide +kernel
theorem dX3_giveBlock_98 : decode cX3_giveBlock 98 = .ok (.sipush 128, 3) := by decide +kernel
theorem dX3_giveBlock_101 : decode cX3_giveBlock 101 = .ok (.iload 4, 2) := by decide +kernel
theorem dX3_giveBlock_103 : decode cX3_giveBlock 103 = .ok (.imul, 1) := by decide +kernel
theorem dX3_giveBlock_104 : decode cX3_giveBlock 104 = .ok (.iload_n 3, 1) := by decide +kernel
theorem dX3_giveBlock_105 : decode cX3_giveBlock 105 = .ok (.iadd, 1) := by decide +kernel
theorem dX3_giveBlock_106 : decode cX3_giveBlock 106 = .ok (.iconst 1, 1) := by decide +kernel
theorem dX3_giveBlock_107 : decode cX3_giveBlock 107 = .ok (.bastore, 1) := by decide +kernel
theorem dX3_giveBlock_108 : decode cX3_giveBlock 108 = .ok (.return_, 1) := by decide +kernel
theorem dX3_takeFrame_0 : decode cX3_takeFrame 0 = .ok (.aload_n 0, 1) := by decide +kernel
theorem dX3_takeFrame_1 : decode cX3_takeFrame 1 = .ok (.iconst 0, 1) := by decide +kernel
theorem dX3_takeFrame_2 : decode cX3_takeFrame 2 = .ok (.invokevirtual 59, 3) := by decide +kernel
theorem dX3_takeFrame_5 : decode cX3_takeFrame 5 = .ok (.istore_n 2, 1) := by decide +kernel
theorem dX3_takeFrame_6 : decode cX3_takeFrame 6 = .ok (.iload_n 2, 1) := by decide +kernel
theorem dX3_takeFrame_7 : decode cX3_takeFrame 7 = .ok (.ifCond .lt 10, 3) := by decide +kernel
theorem dX3_takeFrame_10 : decode cX3_takeFrame 10 = .ok (.aload_n 0, 1) := by decide +kernel
theorem dX3_takeFrame_11 : decode cX3_takeFrame 11 = .ok (.getfield 13, 3) := by decide +kernel
theorem dX3_takeFrame_14 : decode cX3_takeFrame 14 = .ok (.iload_n 2, 1) := by decide +kernel
theorem dX3_takeFrame_15 : decode cX3_takeFrame 15 = .ok (.iload_n 1, 1) := by decide +kernel
theorem dX3_takeFrame_16 : decode cX3_takeFrame 16 = .ok (.iastore, 1) := by decide +kernel
theorem dX3_takeFrame_17 : decode cX3_takeFrame 17 = .ok (.iload_n 2, 1) := by decide +kernel
theorem dX3_takeFrame_18 : decode cX3_takeFrame 18 = .ok (.ireturn, 1) := by decide +kernel
theorem dX3_layAside_0 : decode cX3_layAside 0 = .ok (.iconst 0, 1) := by decide +kernel
theorem dX3_layAside_1 : decode cX3_layAside 1 = .ok (.istore_n 1, 1) := by decide +kernel
theorem dX3_layAside_2 : decode cX3_layAside 2 = .ok (.iload_n 1, 1) := by decide +kernel
theorem dX3_layAside_3 : decode cX3_layAside 3 = .ok (.sipush 1024, 3) := by decide +kernel
theorem dX3_layAside_6 : decode cX3_layAside 6 = .ok (.if_icmp .ge 21, 3) := by decide +kernel
theorem dX3_layAside_9 : decode cX3_layAside 9 = .ok (.aload_n 0, 1) := by decide +kernel
theorem dX3_layAside_10 : decode cX3_layAside 10 = .ok (.getfield 50, 3) := by decide +kernel
theorem dX3_layAside_13 : decode cX3_layAside 13 = .ok (.iload_n 1, 1) := by decide +kernel
theorem dX3_layAside_14 : decode cX3_layAside 14 = .ok (.aload_n 0, 1) := by decide +kernel
theorem dX3_layAside_15 : decode cX3_layAside 15 = .ok (.getfield 7, 3) := by decide +kernel
theorem dX3_layAside_18 : decode cX3_layAside 18 = .ok (.iload_n 1, 1) := by decide +kernel
theorem dX3_layAside_19 : decode cX3_layAside 19 = .ok (.baload, 1) := by decide +kernel
theorem dX3_layAside_20 : decode cX3_layAside 20 = .ok (.bastore, 1) := by decide +kernel
theorem dX3_layAside_21 : decode cX3_layAside 21 = .ok (.iinc 1 1, 3) := by decide +kernel
theorem dX3_layAside_24 : decode cX3_layAside 24 = .ok (.goto (-22), 3) := by decide +kernel
theorem dX3_layAside_27 : decode cX3_layAside 27 = .ok (.iconst 0, 1) := by decide +kernel
theorem dX3_layAside_28 : decode cX3_layAside 28 = .ok (.istore_n 1, 1) := by decide +kernel
theorem dX3_layAside_29 : decode cX3_layAside 29 = .ok (.iload_n 1, 1) := by decide +kernel
theorem dX3_layAside_30 : decode cX3_layAside 30 = .ok (.sipush 128, 3) := by decide +kernel
theorem dX3_layAside_33 : decode cX3_layAside 33 = .ok (.if_icmp .ge 21, 3) := by decide +kernel
theorem dX3_layAside_36 : decode cX3_layAside 36 = .ok (.aload_n 0, 1) := by decide +kernel
theorem dX3_layAside_37 : decode cX3_layAside 37 = .ok (.getfield 53, 3) := by decide +kernel
theorem dX3_layAside_40 : decode cX3_layAside 40 = .ok (.iload_n 1, 1) := by decide +kernel
theorem dX3_layAside_41 : decode cX3_layAside 41 = .ok (.aload_n 0, 1) := by decide +kernel
theorem dX3_layAside_42 : decode cX3_layAside 42 = .ok (.getfield 13, 3) := by decide +kernel
theorem dX3_layAside_45 : decode cX3_layAside 45 = .ok (.iload_n 1, 1) := by decide +kernel
theorem dX3_layAside_46 : decode cX3_layAside 46 = .ok (.iaload, 1) := by decide +kernel
theorem dX3_layAside_47 : decode cX3_layAside 47 = .ok (.iastore, 1) := by decide +kernel
theorem dX3_layAside_48 : decode cX3_layAside 48 = .ok (.iinc 1 1, 3) := by decide +kernel
theorem dX3_layAside_51 : decode cX3_layAside 51 = .ok (.goto (-22), 3) := by decide +kernel
theorem dX3_layAside_54 : decode cX3_layAside 54 = .ok (.iconst 0, 1) := by decide +kernel
theorem dX3_layAside_55 : decode cX3_layAside 55 = .ok (.istore_n 1, 1) := by decide +kernel
theorem dX3_layAside_56 : decode cX3_layAside 56 = .ok (.iload_n 1, 1) := by decide +kernel
theorem dX3_layAside_57 : decode cX3_layAside 57 = .ok (.sipush 512, 3) := by decide +kernel
theorem dX3_layAside_60 : decode cX3_layAside 60 = .ok (.if_icmp .ge 21, 3) := by decide +kernel
theorem dX3_layAside_63 : decode cX3_layAside 63 = .ok (.aload_n 0, 1) := by decide +kernel
theorem dX3_layAside_64 : decode cX3_layAside 64 = .ok (.getfield 56, 3) := by decide +kernel
theorem dX3_layAside_67 : decode cX3_layAside 67 = .ok (.iload_n 1, 1) := by decide +kernel
theorem dX3_layAside_68 : decode cX3_layAside 68 = .ok (.aload_n 0, 1) := by decide +kernel
theorem dX3_layAside_69 : decode cX3_layAside 69 = .ok (.getfield 17, 3) := by decide +kernel
theorem dX3_layAside_72 : decode cX3_layAside 72 = .ok (.iload_n 1, 1) := by decide +kernel
theorem dX3_layAside_73 : decode cX3_layAside 73 = .ok (.baload, 1) := by decide +kernel
theorem dX3_layAside_74 : decode cX3_layAside 74 = .ok (.bastore, 1) := by decide +kernel
theorem dX3_layAside_75 : decode cX3_layAside 75 = .ok (.iinc 1 1, 3) := by decide +kernel
theorem dX3_layAside_78 : decode cX3_layAside 78 = .ok (.goto (-22), 3) := by decide +kernel
theorem dX3_layAside_81 : decode cX3_layAside 81 = .ok (.return_, 1) := by decide +kernel
theorem dX3_fail_0 : decode cX3_fail 0 = .ok (.iconst 0, 1) := by decide +kernel
theorem dX3_fail_1 : decode cX3_fail 1 = .ok (.istore_n 1, 1) := by decide +kernel
theorem dX3_fail_2 : decode cX3_fail 2 = .ok (.iload_n 1, 1) := by decide +kernel
theorem dX3_fail_3 : decode cX3_fail 3 = .ok (.sipush 1024, 3) := by decide +kernel
theorem dX3_fail_6 : decode cX3_fail 6 = .ok (.if_icmp .ge 21, 3) := by decide +kernel
theorem dX3_fail_9 : decode cX3_fail 9 = .ok (.aload_n 0, 1) := by decide +kernel
theorem dX3_fail_10 : decode cX3_fail 10 = .ok (.getfield 7, 3) := by decide +kernel
theorem dX3_fail_13 : decode cX3_fail 13 = .ok (.iload_n 1, 1) := by decide +kernel
theorem dX3_fail_14 : decode cX3_fail 14 = .ok (.aload_n 0, 1) := by decide +kernel
theorem dX3_fail_15 : decode cX3_fail 15 = .ok (.getfield 50, 3) := by decide +kernel
theorem dX3_fail_18 : decode cX3_fail 18 = .ok (.iload_n 1, 1) := by decide +kernel
theorem dX3_fail_19 : decode cX3_fail 19 = .ok (.baload, 1) := by decide +kernel
theorem dX3_fail_20 : decode cX3_fail 20 = .ok (.bastore, 1) := by decide +kernel
theorem dX3_fail_21 : decode cX3_fail 21 = .ok (.iinc 1 1, 3) := by decide +kernel
theorem dX3_fail_24 : decode cX3_fail 24 = .ok (.goto (-22), 3) := by decide +kernel
theorem dX3_fail_27 : decode cX3_fail 27 = .ok (.iconst 0, 1) := by decide +kernel
theorem dX3_fail_28 : decode cX3_fail 28 = .ok (.istore_n 1, 1) := by decide +kernel
theorem dX3_fail_29 : decode cX3_fail 29 = .ok (.iload_n 1, 1) := by decide +kernel
theorem dX3_fail_30 : decode cX3_fail 30 = .ok (.sipush 128, 3) := by decide +kernel
theorem dX3_fail_33 : decode cX3_fail 33 = .ok (.if_icmp .ge 21, 3) := by decide +kernel
theorem dX3_fail_36 : decode cX3_fail 36 = .ok (.aload_n 0, 1) := by decide +kernel
theorem dX3_fail_37 : decode cX3_fail 37 = .ok (.getfield 13, 3) := by decide +kernel
theorem dX3_fail_40 : decode cX3_fail 40 = .ok (.iload_n 1, 1) := by decide +kernel
theorem dX3_fail_41 : decode cX3_fail 41 = .ok (.aload_n 0, 1) := by decide +kernel
theorem dX3_fail_42 : decode cX3_fail 42 = .ok (.getfield 53, 3) := by decide +kernel
theorem dX3_fail_45 : decode cX3_fail 45 = .ok (.iload_n 1, 1) := by decide +kernel
theorem dX3_fail_46 : decode cX3_fail 46 = .ok (.iaload, 1) := by decide +kernel
theorem dX3_fail_47 : decode cX3_fail 47 = .ok (.iastore, 1) := by decide +kernel
theorem dX3_fail_48 : decode cX3_fail 48 = .ok (.iinc 1 1, 3) := by decide +kernel
theorem dX3_fail_51 : decode cX3_fail 51 = .ok (.goto (-22), 3) := by decide +kernel
theorem dX3_fail_54 : decode cX3_fail 54 = .ok (.iconst 0, 1) := by decide +kernel
theorem dX3_fail_55 : decode cX3_fail 55 = .ok (.istore_n 1, 1) := by decide +kernel
theorem dX3_fail_56 : decode cX3_fail 56 = .ok (.iload_n 1, 1) := by decide +kernel
theorem dX3_fail_57 : decode cX3_fail 57 = .ok (.sipush 512, 3) := by decide +kernel
theorem dX3_fail_60 : decode cX3_fail 60 = .ok (.if_icmp .ge 21, 3) := by decide +kernel
theorem dX3_fail_63 : decode cX3_fail 63 = .ok (.aload_n 0, 1) := by decide +kernel
theorem dX3_fail_64 : decode cX3_fail 64 = .ok (.getfield 17, 3) := by decide +kernel
theorem dX3_fail_67 : decode cX3_fail 67 = .ok (.iload_n 1, 1) := by decide +kernel
theorem dX3_fail_68 : decode cX3_fail 68 = .ok (.aload_n 0, 1) := by decide +kernel
theorem dX3_fail_69 : decode cX3_fail 69 = .ok (.getfield 56, 3) := by decide +kernel
theorem dX3_fail_72 : decode cX3_fail 72 = .ok (.iload_n 1, 1) := by decide +kernel
theorem dX3_fail_73 : decode cX3_fail 73 = .ok (.baload, 1) := by decide +kernel
theorem dX3_fail_74 : decode cX3_fail 74 = .ok (.bastore, 1) := by decide +kernel
theorem dX3_fail_75 : decode cX3_fail 75 = .ok (.iinc 1 1, 3) := by decide +kernel
theorem dX3_fail_78 : decode cX3_fail 78 = .ok (.goto (-22), 3) := by decide +kernel
theorem dX3_fail_81 : decode cX3_fail 81 = .ok (.aload_n 0, 1) := by decide +kernel
theorem dX3_fail_82 : decode cX3_fail 82 = .ok (.dup, 1) := by decide +kernel
theorem dX3_fail_83 : decode cX3_fail 83 = .ok (.getfield 63, 3) := by decide +kernel
theorem dX3_fail_86 : decode cX3_fail 86 = .ok (.iconst 1, 1) := by decide +kernel
theorem dX3_fail_87 : decode cX3_fail 87 = .ok (.iadd, 1) := by decide +kernel
theorem dX3_fail_88 : decode cX3_fail 88 = .ok (.putfield 63, 3) := by decide +kernel
theorem dX3_fail_91 : decode cX3_fail 91 = .ok (.bipush (-3), 2) := by decide +kernel
theorem dX3_fail_93 : decode cX3_fail 93 = .ok (.ireturn, 1) := by decide +kernel
theorem dX3_freePlace_0 : decode cX3_freePlace 0 = .ok (.iconst 4, 1) := by decide +kernel
theorem dX3_freePlace_1 : decode cX3_freePlace 1 = .ok (.iload_n 1, 1) := by decide +kernel
theorem dX3_freePlace_2 : decode cX3_freePlace 2 = .ok (.imul, 1) := by decide +kernel
theorem dX3_freePlace_3 : decode cX3_freePlace 3 = .ok (.istore_n 2, 1) := by decide +kernel
theorem dX3_freePlace_4 : decode cX3_freePlace 4 = .ok (.iload_n 2, 1) := by decide +kernel
theorem dX3_freePlace_5 : decode cX3_freePlace 5 = .ok (.iconst 4, 1) := by decide +kernel
theorem dX3_freePlace_6 : decode cX3_freePlace 6 = .ok (.iload_n 1, 1) := by decide +kernel
theorem dX3_freePlace_7 : decode cX3_freePlace 7 = .ok (.imul, 1) := by decide +kernel
theorem dX3_freePlace_8 : decode cX3_freePlace 8 = .ok (.iconst 4, 1) := by decide +kernel
theorem dX3_freePlace_9 : decode cX3_freePlace 9 = .ok (.iadd, 1) := by decide +kernel
theorem dX3_freePlace_10 : decode cX3_freePlace 10 = .ok (.if_icmp .ge 20, 3) := by decide +kernel
theorem dX3_freePlace_13 : decode cX3_freePlace 13 = .ok (.aload_n 0, 1) := by decide +kernel
theorem dX3_freePlace_14 : decode cX3_freePlace 14 = .ok (.getfield 17, 3) := by decide +kernel
theorem dX3_freePlace_17 : decode cX3_freePlace 17 = .ok (.iload_n 2, 1) := by decide +kernel
theorem dX3_freePlace_18 : decode cX3_freePlace 18 = .ok (.baload, 1) := by decide +kernel
theorem dX3_freePlace_19 : decode cX3_freePlace 19 = .ok (.ifCond .ne 5, 3) := by decide +kernel
theorem dX3_freePlace_22 : decode cX3_freePlace 22 = .ok (.iload_n 2, 1) := by decide +kernel
theorem dX3_freePlace_23 : decode cX3_freePlace 23 = .ok (.ireturn, 1) := by decide +kernel
theorem dX3_freePlace_24 : decode cX3_freePlace 24 = .ok (.iinc 2 1, 3) := by decide +kernel
theorem dX3_freePlace_27 : decode cX3_freePlace 27 = .ok (.goto (-23), 3) := by decide +kernel
theorem dX3_freePlace_30 : decode cX3_freePlace 30 = .ok (.iconst (-1), 1) := by decide +kernel
theorem dX3_freePlace_31 : decode cX3_freePlace 31 = .ok (.ireturn, 1) := by decide +kernel
theorem dX3_takeSmall_0 : decode cX3_takeSmall 0 = .ok (.iconst (-1), 1) := by decide +kernel
theorem dX3_takeSmall_1 : decode cX3_takeSmall 1 = .ok (.istore_n 2, 1) := by decide +kernel
theorem dX3_takeSmall_2 : decode cX3_takeSmall 2 = .ok (.iconst 0, 1) := by decide +kernel
theorem dX3_takeSmall_3 : decode cX3_takeSmall 3 = .ok (.istore_n 3, 1) := by decide +kernel
theorem dX3_takeSmall_4 : decode cX3_takeSmall 4 = .ok (.iload_n 3, 1) := by decide +kernel
theorem dX3_takeSmall_5 : decode cX3_takeSmall 5 = .ok (.sipush 128, 3) := by decide +kernel
theorem dX3_takeSmall_8 : decode cX3_takeSmall 8 = .ok (.if_icmp .ge 33, 3) := by decide +kernel
theorem dX3_takeSmall_11 : decode cX3_takeSmall 11 = .ok (.iload_n 2, 1) := by decide +kernel
theorem dX3_takeSmall_12 : decode cX3_takeSmall 12 = .ok (.ifCond .ge 29, 3) := by decide +kernel
theorem dX3_takeSmall_15 : decode cX3_takeSmall 15 = .ok (.aload_n 0, 1) := by decide +kernel
theorem dX3_takeSmall_16 : decode cX3_takeSmall 16 = .ok (.getfield 13, 3) := by decide +kernel
theorem dX3_takeSmall_19 : decode cX3_takeSmall 19 = .ok (.iload_n 3, 1) := by decide +kernel
theorem dX3_takeSmall_20 : decode cX3_takeSmall 20 = .ok (.iaload, 1) := by decide +kernel
theorem dX3_takeSmall_21 : decode cX3_takeSmall 21 = .ok (.iload_n 1, 1) := by decide +kernel
theorem dX3_takeSmall_22 : decode cX3_takeSmall 22 = .ok (.if_icmp .ne 11, 3) := by decide +kernel
theorem dX3_takeSmall_25 : decode cX3_takeSmall 25 = .ok (.aload_n 0, 1) := by decide +kernel
theorem dX3_takeSmall_26 : decode cX3_takeSmall 26 = .ok (.iload_n 3, 1) := by decide +kernel
theorem dX3_takeSmall_27 : decode cX3_takeSmall 27 = .ok (.invokevirtual 67, 3) := by decide +kernel
theorem dX3_takeSmall_30 : decode cX3_takeSmall 30 = .ok (.goto 4, 3) := by decide +kernel
theorem dX3_takeSmall_33 : decode cX3_takeSmall 33 = .ok (.iconst (-1), 1) := by decide +kernel
theorem dX3_takeSmall_34 : decode cX3_takeSmall 34 = .ok (.istore_n 2, 1) := by decide +kernel
theorem dX3_takeSmall_35 : decode cX3_takeSmall 35 = .ok (.iinc 3 1, 3) := by decide +kernel
theorem dX3_takeSmall_38 : decode cX3_takeSmall 38 = .ok (.goto (-34), 3) := by decide +kernel
theorem dX3_takeSmall_41 : decode cX3_takeSmall 41 = .ok (.iload_n 2, 1) := by decide +kernel
theorem dX3_takeSmall_42 : decode cX3_takeSmall 42 = .ok (.ifCond .ge 21, 3) := by decide +kernel
theorem dX3_takeSmall_45 : decode cX3_takeSmall 45 = .ok (.aload_n 0, 1) := by decide +kernel
theorem dX3_takeSmall_46 : decode cX3_takeSmall 46 = .ok (.iload_n 1, 1) := by decide +kernel
theorem dX3_takeSmall_47 : decode cX3_takeSmall 47 = .ok (.invokevirtual 70, 3) := by decide +kernel
theorem dX3_takeSmall_50 : decode cX3_takeSmall 50 = .ok (.istore_n 3, 1) := by decide +kernel
theorem dX3_takeSmall_51 : decode cX3_takeSmall 51 = .ok (.iload_n 3, 1) := by decide +kernel
theorem dX3_takeSmall_52 : decode cX3_takeSmall 52 = .ok (.ifCond .ge 7, 3) := by decide +kernel
theorem dX3_takeSmall_55 : decode cX3_takeSmall 55 = .ok (.iconst (-1), 1) := by decide +kernel
theorem dX3_takeSmall_56 : decode cX3_takeSmall 56 = .ok (.goto 6, 3) := by decide +kernel
theorem dX3_takeSmall_59 : decode cX3_takeSmall 59 = .ok (.iconst 4, 1) := by decide +kernel
theorem dX3_takeSmall_60 : decode cX3_takeSmall 60 = .ok (.iload_n 3, 1) := by decide +kernel
theorem dX3_takeSmall_61 : decode cX3_takeSmall 61 = .ok (.imul, 1) := by decide +kernel
theorem dX3_takeSmall_62 : decode cX3_takeSmall 62 = .ok (.istore_n 2, 1) := by decide +kernel
theorem dX3_takeSmall_63 : decode cX3_takeSmall 63 = .ok (.iload_n 2, 1) := by decide +kernel
theorem dX3_takeSmall_64 : decode cX3_takeSmall 64 = .ok (.ifCond .lt 10, 3) := by decide +kernel
theorem dX3_takeSmall_67 : decode cX3_takeSmall 67 = .ok (.aload_n 0, 1) := by decide +kernel
theorem dX3_takeSmall_68 : decode cX3_takeSmall 68 = .ok (.getfield 17, 3) := by decide +kernel
theorem dX3_takeSmall_71 : decode cX3_takeSmall 71 = .ok (.iload_n 2, 1) := by decide +kernel
theorem dX3_takeSmall_72 : decode cX3_takeSmall 72 = .ok (.iconst 1, 1) := by decide +kernel
theorem dX3_takeSmall_73 : decode cX3_takeSmall 73 = .ok (.bastore, 1) := by decide +kernel
theorem dX3_takeSmall_74 : decode cX3_takeSmall 74 = .ok (.iload_n 2, 1) := by decide +kernel
theorem dX3_takeSmall_75 : decode cX3_takeSmall 75 = .ok (.ireturn, 1) := by decide +kernel
theorem dX3_smallIn_0 : decode cX3_smallIn 0 = .ok (.iconst 0, 1) := by decide +kernel
theorem dX3_smallIn_1 : decode cX3_smallIn 1 = .ok (.istore_n 2, 1) := by decide +kernel
theorem dX3_smallIn_2 : decode cX3_smallIn 2 = .ok (.iconst 4, 1) := by decide +kernel
theorem dX3_smallIn_3 : decode cX3_smallIn 3 = .ok (.iload_n 1, 1) := by decide +kernel
theorem dX3_smallIn_4 : decode cX3_smallIn 4 = .ok (.imul, 1) := by decide +kernel
theorem dX3_smallIn_5 : decode cX3_smallIn 5 = .ok (.istore_n 3, 1) := by decide +kernel
theorem dX3_smallIn_6 : decode cX3_smallIn 6 = .ok (.iload_n 3, 1) := by decide +kernel
theorem dX3_smallIn_7 : decode cX3_smallIn 7 = .ok (.iconst 4, 1) := by decide +kernel
theorem dX3_smallIn_8 : decode cX3_smallIn 8 = .ok (.iload_n 1, 1) := by decide +kernel
theorem dX3_smallIn_9 : decode cX3_smallIn 9 = .ok (.imul, 1) := by decide +kernel
theorem dX3_smallIn_10 : decode cX3_smallIn 10 = .ok (.iconst 4, 1) := by decide +kernel
theorem dX3_smallIn_11 : decode cX3_smallIn 11 = .ok (.iadd, 1) := by decide +kernel
theorem dX3_smallIn_12 : decode cX3_smallIn 12 = .ok (.if_icmp .ge 26, 3) := by decide +kernel
theorem dX3_smallIn_15 : decode cX3_smallIn 15 = .ok (.iload_n 2, 1) := by decide +kernel
theorem dX3_smallIn_16 : decode cX3_smallIn 16 = .ok (.aload_n 0, 1) := by decide +kernel
theorem dX3_smallIn_17 : decode cX3_smallIn 17 = .ok (.getfield 17, 3) := by decide +kernel
theorem dX3_smallIn_20 : decode cX3_smallIn 20 = .ok (.iload_n 3, 1) := by decide +kernel
theorem dX3_smallIn_21 : decode cX3_smallIn 21 = .ok (.baload, 1) := by decide +kernel
theorem dX3_smallIn_22 : decode cX3_smallIn 22 = .ok (.ifCond .eq 7, 3) := by decide +kernel
theorem dX3_smallIn_25 : decode cX3_smallIn 25 = .ok (.iconst 1, 1) := by decide +kernel
theorem dX3_smallIn_26 : decode cX3_smallIn 26 = .ok (.goto 4, 3) := by decide +kernel
theorem dX3_smallIn_29 : decode cX3_smallIn 29 = .ok (.iconst 0, 1) := by decide +kernel
theorem dX3_smallIn_30 : decode cX3_smallIn 30 = .ok (.iadd, 1) := by decide +kernel
theorem dX3_smallIn_31 : decode cX3_smallIn 31 = .ok (.istore_n 2, 1) := by decide +kernel
theorem dX3_smallIn_32 : decode cX3_smallIn 32 = .ok (.iinc 3 1, 3) := by decide +kernel
theorem dX3_smallIn_35 : decode cX3_smallIn 35 = .ok (.goto (-29), 3) := by decide +kernel
theorem dX3_smallIn_38 : decode cX3_smallIn 38 = .ok (.iload_n 2, 1) := by decide +kernel
theorem dX3_smallIn_39 : decode cX3_smallIn 39 = .ok (.ireturn, 1) := by decide +kernel
theorem dX3_giveSmall_0 : decode cX3_giveSmall 0 = .ok (.aload_n 0, 1) := by decide +kernel
theorem dX3_giveSmall_1 : decode cX3_giveSmall 1 = .ok (.getfield 17, 3) := by decide +kernel
theorem dX3_giveSmall_4 : decode cX3_giveSmall 4 = .ok (.iload_n 1, 1) := by decide +kernel
theorem dX3_giveSmall_5 : decode cX3_giveSmall 5 = .ok (.iconst 0, 1) := by decide +kernel
theorem dX3_giveSmall_6 : decode cX3_giveSmall 6 = .ok (.bastore, 1) := by decide +kernel
theorem dX3_giveSmall_7 : decode cX3_giveSmall 7 = .ok (.aload_n 0, 1) := by decide +kernel
theorem dX3_giveSmall_8 : decode cX3_giveSmall 8 = .ok (.iload_n 1, 1) := by decide +kernel
theorem dX3_giveSmall_9 : decode cX3_giveSmall 9 = .ok (.iconst 4, 1) := by decide +kernel
theorem dX3_giveSmall_10 : decode cX3_giveSmall 10 = .ok (.idiv, 1) := by decide +kernel
theorem dX3_giveSmall_11 : decode cX3_giveSmall 11 = .ok (.invokevirtual 73, 3) := by decide +kernel
theorem dX3_giveSmall_14 : decode cX3_giveSmall 14 = .ok (.ifCond .ne 11, 3) := by decide +kernel
theorem dX3_giveSmall_17 : decode cX3_giveSmall 17 = .ok (.aload_n 0, 1) := by decide +kernel
theorem dX3_giveSmall_18 : decode cX3_giveSmall 18 = .ok (.iload_n 1, 1) := by decide +kernel
theorem dX3_giveSmall_19 : decode cX3_giveSmall 19 = .ok (.iconst 4, 1) := by decide +kernel
theorem dX3_giveSmall_20 : decode cX3_giveSmall 20 = .ok (.idiv, 1) := by decide +kernel
theorem dX3_giveSmall_21 : decode cX3_giveSmall 21 = .ok (.iconst 0, 1) := by decide +kernel
theorem dX3_giveSmall_22 : decode cX3_giveSmall 22 = .ok (.invokevirtual 76, 3) := by decide +kernel
theorem dX3_giveSmall_25 : decode cX3_giveSmall 25 = .ok (.return_, 1) := by decide +kernel
theorem dX3_isLive_0 : decode cX3_isLive 0 = .ok (.iload_n 1, 1) := by decide +kernel
theorem dX3_isLive_1 : decode cX3_isLive 1 = .ok (.ifCond .lt 23, 3) := by decide +kernel
theorem dX3_isLive_4 : decode cX3_isLive 4 = .ok (.iload_n 1, 1) := by decide +kernel
theorem dX3_isLive_5 : decode cX3_isLive 5 = .ok (.bipush 16, 2) := by decide +kernel
theorem dX3_isLive_7 : decode cX3_isLive 7 = .ok (.if_icmp .ge 17, 3) := by decide +kernel
theorem dX3_isLive_10 : decode cX3_isLive 10 = .ok (.aload_n 0, 1) := by decide +kernel
theorem dX3_isLive_11 : decode cX3_isLive 11 = .ok (.getfield 26, 3) := by decide +kernel
theorem dX3_isLive_14 : decode cX3_isLive 14 = .ok (.iload_n 1, 1) := by decide +kernel
theorem dX3_isLive_15 : decode cX3_isLive 15 = .ok (.iaload, 1) := by decide +kernel
theorem dX3_isLive_16 : decode cX3_isLive 16 = .ok (.iconst 1, 1) := by decide +kernel
theorem dX3_isLive_17 : decode cX3_isLive 17 = .ok (.if_icmp .ne 7, 3) := by decide +kernel
theorem dX3_isLive_20 : decode cX3_isLive 20 = .ok (.iconst 1, 1) := by decide +kernel
theorem dX3_isLive_21 : decode cX3_isLive 21 = .ok (.goto 4, 3) := by decide +kernel
theorem dX3_isLive_24 : decode cX3_isLive 24 = .ok (.iconst 0, 1) := by decide +kernel
theorem dX3_isLive_25 : decode cX3_isLive 25 = .ok (.ireturn, 1) := by decide +kernel
theorem dX3_unusedNumber_0 : decode cX3_unusedNumber 0 = .ok (.iconst 0, 1) := by decide +kernel
theorem dX3_unusedNumber_1 : decode cX3_unusedNumber 1 = .ok (.istore_n 1, 1) := by decide +kernel
theorem dX3_unusedNumber_2 : decode cX3_unusedNumber 2 = .ok (.iload_n 1, 1) := by decide +kernel
theorem dX3_unusedNumber_3 : decode cX3_unusedNumber 3 = .ok (.bipush 16, 2) := by decide +kernel
theorem dX3_unusedNumber_5 : decode cX3_unusedNumber 5 = .ok (.if_icmp .ge 20, 3) := by decide +kernel
theorem dX3_unusedNumber_8 : decode cX3_unusedNumber 8 = .ok (.aload_n 0, 1) := by decide +kernel
theorem dX3_unusedNumber_9 : decode cX3_unusedNumber 9 = .ok (.getfield 26, 3) := by decide +kernel
theorem dX3_unusedNumber_12 : decode cX3_unusedNumber 12 = .ok (.iload_n 1, 1) := by decide +kernel
theorem dX3_unusedNumber_13 : decode cX3_unusedNumber 13 = .ok (.iaload, 1) := by decide +kernel
theorem dX3_unusedNumber_14 : decode cX3_unusedNumber 14 = .ok (.ifCond .ne 5, 3) := by decide +kernel
theorem dX3_unusedNumber_17 : decode cX3_unusedNumber 17 = .ok (.iload_n 1, 1) := by decide +kernel
theorem dX3_unusedNumber_18 : decode cX3_unusedNumber 18 = .ok (.ireturn, 1) := by decide +kernel
theorem dX3_unusedNumber_19 : decode cX3_unusedNumber 19 = .ok (.iinc 1 1, 3) := by decide +kernel
theorem dX3_unusedNumber_22 : decode cX3_unusedNumber 22 = .ok (.goto (-20), 3) := by decide +kernel
theorem dX3_unusedNumber_25 : decode cX3_unusedNumber 25 = .ok (.iconst (-1), 1) := by decide +kernel
theorem dX3_unusedNumber_26 : decode cX3_unusedNumber 26 = .ok (.ireturn, 1) := by decide +kernel
theorem dX3_begin_0 : decode cX3_begin 0 = .ok (.aload_n 0, 1) := by decide +kernel
theorem dX3_begin_1 : decode cX3_begin 1 = .ok (.getfield 26, 3) := by decide +kernel
theorem dX3_begin_4 : decode cX3_begin 4 = .ok (.iload_n 1, 1) := by decide +kernel
theorem dX3_begin_5 : decode cX3_begin 5 = .ok (.iconst 1, 1) := by decide +kernel
theorem dX3_begin_6 : decode cX3_begin 6 = .ok (.iastore, 1) := by decide +kernel
theorem dX3_begin_7 : decode cX3_begin 7 = .ok (.aload_n 0, 1) := by decide +kernel
theorem dX3_begin_8 : decode cX3_begin 8 = .ok (.getfield 38, 3) := by decide +kernel
theorem dX3_begin_11 : decode cX3_begin 11 = .ok (.iload_n 1, 1) := by decide +kernel
theorem dX3_begin_12 : decode cX3_begin 12 = .ok (.iload_n 2, 1) := by decide +kernel
theorem dX3_begin_13 : decode cX3_begin 13 = .ok (.iastore, 1) := by decide +kernel
theorem dX3_begin_14 : decode cX3_begin 14 = .ok (.aload_n 0, 1) := by decide +kernel
theorem dX3_begin_15 : decode cX3_begin 15 = .ok (.getfield 32, 3) := by decide +kernel
theorem dX3_begin_18 : decode cX3_begin 18 = .ok (.iload_n 1, 1) := by decide +kernel
theorem dX3_begin_19 : decode cX3_begin 19 = .ok (.iload_n 3, 1) := by decide +kernel
theorem dX3_begin_20 : decode cX3_begin 20 = .ok (.iastore, 1) := by decide +kernel
theorem dX3_begin_21 : decode cX3_begin 21 = .ok (.aload_n 0, 1) := by decide +kernel
theorem dX3_begin_22 : decode cX3_begin 22 = .ok (.getfield 29, 3) := by decide +kernel
theorem dX3_begin_25 : decode cX3_begin 25 = .ok (.iload_n 1, 1) := by decide +kernel
theorem dX3_begin_26 : decode cX3_begin 26 = .ok (.iconst 0, 1) := by decide +kernel
theorem dX3_begin_27 : decode cX3_begin 27 = .ok (.iastore, 1) := by decide +kernel
theorem dX3_begin_28 : decode cX3_begin 28 = .ok (.aload_n 0, 1) := by decide +kernel
theorem dX3_begin_29 : decode cX3_begin 29 = .ok (.getfield 47, 3) := by decide +kernel
theorem dX3_begin_32 : decode cX3_begin 32 = .ok (.aload_n 0, 1) := by decide +kernel
theorem dX3_begin_33 : decode cX3_begin 33 = .ok (.getfield 80, 3) := by decide +kernel
theorem dX3_begin_36 : decode cX3_begin 36 = .ok (.iload_n 1, 1) := by decide +kernel
theorem dX3_begin_37 : decode cX3_begin 37 = .ok (.iastore, 1) := by decide +kernel
theorem dX3_begin_38 : decode cX3_begin 38 = .ok (.aload_n 0, 1) := by decide +kernel
theorem dX3_begin_39 : decode cX3_begin 39 = .ok (.dup, 1) := by decide +kernel
theorem dX3_begin_40 : decode cX3_begin 40 = .ok (.getfield 80, 3) := by decide +kernel
theorem dX3_begin_43 : decode cX3_begin 43 = .ok (.iconst 1, 1) := by decide +kernel
theorem dX3_begin_44 : decode cX3_begin 44 = .ok (.iadd, 1) := by decide +kernel
theorem dX3_begin_45 : decode cX3_begin 45 = .ok (.putfield 80, 3) := by decide +kernel
theorem dX3_begin_48 : decode cX3_begin 48 = .ok (.return_, 1) := by decide +kernel
theorem dX3_spawn_0 : decode cX3_spawn 0 = .ok (.aload_n 0, 1) := by decide +kernel
theorem dX3_spawn_1 : decode cX3_spawn 1 = .ok (.invokevirtual 83, 3) := by decide +kernel
theorem dX3_spawn_4 : decode cX3_spawn 4 = .ok (.istore_n 1, 1) := by decide +kernel
theorem dX3_spawn_5 : decode cX3_spawn 5 = .ok (.iload_n 1, 1) := by decide +kernel
theorem dX3_spawn_6 : decode cX3_spawn 6 = .ok (.ifCond .ge 6, 3) := by decide +kernel
theorem dX3_spawn_9 : decode cX3_spawn 9 = .ok (.bipush (-4), 2) := by decide +kernel
theorem dX3_spawn_11 : decode cX3_spawn 11 = .ok (.ireturn, 1) := by decide +kernel
theorem dX3_spawn_12 : decode cX3_spawn 12 = .ok (.aload_n 0, 1) := by decide +kernel
theorem dX3_spawn_13 : decode cX3_spawn 13 = .ok (.invokevirtual 87, 3) := by decide +kernel
theorem dX3_spawn_16 : decode cX3_spawn 16 = .ok (.aload_n 0, 1) := by decide +kernel
theorem dX3_spawn_17 : decode cX3_spawn 17 = .ok (.iconst 1, 1) := by decide +kernel
theorem dX3_spawn_18 : decode cX3_spawn 18 = .ok (.invokevirtual 90, 3) := by decide +kernel
theorem dX3_spawn_21 : decode cX3_spawn 21 = .ok (.istore_n 2, 1) := by decide +kernel
theorem dX3_spawn_22 : decode cX3_spawn 22 = .ok (.iload_n 2, 1) := by decide +kernel
theorem dX3_spawn_23 : decode cX3_spawn 23 = .ok (.ifCond .ge 8, 3) := by decide +kernel
theorem dX3_spawn_26 : decode cX3_spawn 26 = .ok (.aload_n 0, 1) := by decide +kernel
theorem dX3_spawn_27 : decode cX3_spawn 27 = .ok (.invokevirtual 93, 3) := by decide +kernel
theorem dX3_spawn_30 : decode cX3_spawn 30 = .ok (.ireturn, 1) := by decide +kernel
theorem dX3_spawn_31 : decode cX3_spawn 31 = .ok (.aload_n 0, 1) := by decide +kernel
theorem dX3_spawn_32 : decode cX3_spawn 32 = .ok (.iload_n 1, 1) := by decide +kernel
theorem dX3_spawn_33 : decode cX3_spawn 33 = .ok (.iload_n 2, 1) := by decide +kernel
theorem dX3_spawn_34 : decode cX3_spawn 34 = .ok (.iconst (-1), 1) := by decide +kernel
theorem dX3_spawn_35 : decode cX3_spawn 35 = .ok (.invokevirtual 96, 3) := by decide +kernel
theorem dX3_spawn_38 : decode cX3_spawn 38 = .ok (.iload_n 1, 1) := by decide +kernel
theorem dX3_spawn_39 : decode cX3_spawn 39 = .ok (.ireturn, 1) := by decide +kernel
theorem dX3_fork_0 : decode cX3_fork 0 = .ok (.aload_n 0, 1) := by decide +kernel
theorem dX3_fork_1 : decode cX3_fork 1 = .ok (.iload_n 1, 1) := by decide +kernel
theorem dX3_fork_2 : decode cX3_fork 2 = .ok (.invokevirtual 100, 3) := by decide +kernel
theorem dX3_fork_5 : decode cX3_fork 5 = .ok (.ifCond .ne 6, 3) := by decide +kernel
theorem dX3_fork_8 : decode cX3_fork 8 = .ok (.bipush (-2), 2) := by decide +kernel
theorem dX3_fork_10 : decode cX3_fork 10 = .ok (.ireturn, 1) := by decide +kernel
theorem dX3_fork_11 : decode cX3_fork 11 = .ok (.aload_n 0, 1) := by decide +kernel
theorem dX3_fork_12 : decode cX3_fork 12 = .ok (.invokevirtual 83, 3) := by decide +kernel
theorem dX3_fork_15 : decode cX3_fork 15 = .ok (.istore_n 2, 1) := by decide +kernel
theorem dX3_fork_16 : decode cX3_fork 16 = .ok (.iload_n 2, 1) := by decide +kernel
theorem dX3_fork_17 : decode cX3_fork 17 = .ok (.ifCond .ge 6, 3) := by decide +kernel
theorem dX3_fork_20 : decode cX3_fork 20 = .ok (.bipush (-4), 2) := by decide +kernel
theorem dX3_fork_22 : decode cX3_fork 22 = .ok (.ireturn, 1) := by decide +kernel
theorem dX3_fork_23 : decode cX3_fork 23 = .ok (.aload_n 0, 1) := by decide +kernel
theorem dX3_fork_24 : decode cX3_fork 24 = .ok (.invokevirtual 87, 3) := by decide +kernel
theorem dX3_fork_27 : decode cX3_fork 27 = .ok (.aload_n 0, 1) := by decide +kernel
theorem dX3_fork_28 : decode cX3_fork 28 = .ok (.iconst 1, 1) := by decide +kernel
theorem dX3_fork_29 : decode cX3_fork 29 = .ok (.invokevirtual 90, 3) := by decide +kernel
theorem dX3_fork_32 : decode cX3_fork 32 = .ok (.istore_n 3, 1) := by decide +kernel
theorem dX3_fork_33 : decode cX3_fork 33 = .ok (.iload_n 3, 1) := by decide +kernel
theorem dX3_fork_34 : decode cX3_fork 34 = .ok (.ifCond .ge 8, 3) := by decide +kernel
theorem dX3_fork_37 : decode cX3_fork 37 = .ok (.aload_n 0, 1) := by decide +kernel
theorem dX3_fork_38 : decode cX3_fork 38 = .ok (.invokevirtual 93, 3) := by decide +kernel
theorem dX3_fork_41 : decode cX3_fork 41 = .ok (.ireturn, 1) := by decide +kernel
theorem dX3_fork_42 : decode cX3_fork 42 = .ok (.aload_n 0, 1) := by decide +kernel
theorem dX3_fork_43 : decode cX3_fork 43 = .ok (.getfield 29, 3) := by decide +kernel
theorem dX3_fork_46 : decode cX3_fork 46 = .ok (.iload_n 1, 1) := by decide +kernel
theorem dX3_fork_47 : decode cX3_fork 47 = .ok (.iaload, 1) := by decide +kernel
theorem dX3_fork_48 : decode cX3_fork 48 = .ok (.bipush 15, 2) := by decide +kernel
theorem dX3_fork_50 : decode cX3_fork 50 = .ok (.iadd, 1) := by decide +kernel
theorem dX3_fork_51 : decode cX3_fork 51 = .ok (.bipush 16, 2) := by decide +kernel
theorem dX3_fork_53 : decode cX3_fork 53 = .ok (.idiv, 1) := by decide +kernel
theorem dX3_fork_54 : decode cX3_fork 54 = .ok (.istore 4, 2) := by decide +kernel
theorem dX3_fork_56 : decode cX3_fork 56 = .ok (.iconst 0, 1) := by decide +kernel
theorem dX3_fork_57 : decode cX3_fork 57 = .ok (.istore 5, 2) := by decide +kernel
theorem dX3_fork_59 : decode cX3_fork 59 = .ok (.iload 5, 2) := by decide +kernel
theorem dX3_fork_61 : decode cX3_fork 61 = .ok (.iload 4, 2) := by decide +kernel
theorem dX3_fork_63 : decode cX3_fork 63 = .ok (.if_icmp .ge 46, 3) := by decide +kernel
theorem dX3_fork_66 : decode cX3_fork 66 = .ok (.aload_n 0, 1) := by decide +kernel
theorem dX3_fork_67 : decode cX3_fork 67 = .ok (.getfield 44, 3) := by decide +kernel
theorem dX3_fork_70 : decode cX3_fork 70 = .ok (.bipush 16, 2) := by decide +kernel
theorem dX3_fork_72 : decode cX3_fork 72 = .ok (.iload_n 2, 1) := by decide +kernel
theorem dX3_fork_73 : decode cX3_fork 73 = .ok (.imul, 1) := by decide +kernel
theorem dX3_fork_74 : decode cX3_fork 74 = .ok (.iload 5, 2) := by decide +kernel
theorem dX3_fork_76 : decode cX3_fork 76 = .ok (.iadd, 1) := by decide +kernel
theorem dX3_fork_77 : decode cX3_fork 77 = .ok (.aload_n 0, 1) := by decide +kernel
theorem dX3_fork_78 : decode cX3_fork 78 = .ok (.iconst 2, 1) := by decide +kernel
theorem dX3_fork_79 : decode cX3_fork 79 = .ok (.invokevirtual 90, 3) := by decide +kernel
theorem dX3_fork_82 : decode cX3_fork 82 = .ok (.iastore, 1) := by decide +kernel
theorem dX3_fork_83 : decode cX3_fork 83 = .ok (.aload_n 0, 1) := by decide +kernel
theorem dX3_fork_84 : decode cX3_fork 84 = .ok (.getfield 44, 3) := by decide +kernel
theorem dX3_fork_87 : decode cX3_fork 87 = .ok (.bipush 16, 2) := by decide +kernel
theorem dX3_fork_89 : decode cX3_fork 89 = .ok (.iload_n 2, 1) := by decide +kernel
theorem dX3_fork_90 : decode cX3_fork 90 = .ok (.imul, 1) := by decide +kernel
theorem dX3_fork_91 : decode cX3_fork 91 = .ok (.iload 5, 2) := by decide +kernel
theorem dX3_fork_93 : decode cX3_fork 93 = .ok (.iadd, 1) := by decide +kernel
theorem dX3_fork_94 : decode cX3_fork 94 = .ok (.iaload, 1) := by decide +kernel
theorem dX3_fork_95 : decode cX3_fork 95 = .ok (.ifCond .ge 8, 3) := by decide +kernel
theorem dX3_fork_98 : decode cX3_fork 98 = .ok (.aload_n 0, 1) := by decide +kernel
theorem dX3_fork_99 : decode cX3_fork 99 = .ok (.invokevirtual 93, 3) := by decide +kernel
theorem dX3_fork_102 : decode cX3_fork 102 = .ok (.ireturn, 1) := by decide +kernel
theorem dX3_fork_103 : decode cX3_fork 103 = .ok (.iinc 5 1, 3) := by decide +kernel
theorem dX3_fork_106 : decode cX3_fork 106 = .ok (.goto (-47), 3) := by decide +kernel
theorem dX3_fork_109 : decode cX3_fork 109 = .ok (.aload_n 0, 1) := by decide +kernel
theorem dX3_fork_110 : decode cX3_fork 110 = .ok (.iload_n 2, 1) := by decide +kernel
theorem dX3_fork_111 : decode cX3_fork 111 = .ok (.iload_n 3, 1) := by decide +kernel
theorem dX3_fork_112 : decode cX3_fork 112 = .ok (.iload_n 1, 1) := by decide +kernel
theorem dX3_fork_113 : decode cX3_fork 113 = .ok (.invokevirtual 96, 3) := by decide +kernel
theorem dX3_fork_116 : decode cX3_fork 116 = .ok (.aload_n 0, 1) := by decide +kernel
theorem dX3_fork_117 : decode cX3_fork 117 = .ok (.getfield 29, 3) := by decide +kernel
theorem dX3_fork_120 : decode cX3_fork 120 = .ok (.iload_n 2, 1) := by decide +kernel
theorem dX3_fork_121 : decode cX3_fork 121 = .ok (.aload_n 0, 1) := by decide +kernel
theorem dX3_fork_122 : decode cX3_fork 122 = .ok (.getfield 29, 3) := by decide +kernel
theorem dX3_fork_125 : decode cX3_fork 125 = .ok (.iload_n 1, 1) := by decide +kernel
theorem dX3_fork_126 : decode cX3_fork 126 = .ok (.iaload, 1) := by decide +kernel
theorem dX3_fork_127 : decode cX3_fork 127 = .ok (.iastore, 1) := by decide +kernel
theorem dX3_fork_128 : decode cX3_fork 128 = .ok (.iconst 0, 1) := by decide +kernel
theorem dX3_fork_129 : decode cX3_fork 129 = .ok (.istore 5, 2) := by decide +kernel
theorem dX3_fork_131 : decode cX3_fork 131 = .ok (.iload 5, 2) := by decide +kernel
theorem dX3_fork_133 : decode cX3_fork 133 = .ok (.aload_n 0, 1) := by decide +kernel
theorem dX3_fork_134 : decode cX3_fork 134 = .ok (.getfield 29, 3) := by decide +kernel
theorem dX3_fork_137 : decode cX3_fork 137 = .ok (.iload_n 2, 1) := by decide +kernel
theorem dX3_fork_138 : decode cX3_fork 138 = .ok (.iaload, 1) := by decide +kernel
theorem dX3_fork_139 : decode cX3_fork 139 = .ok (.if_icmp .ge 35, 3) := by decide +kernel
theorem dX3_fork_142 : decode cX3_fork 142 = .ok (.aload_n 0, 1) := by decide +kernel
theorem dX3_fork_143 : decode cX3_fork 143 = .ok (.getfield 41, 3) := by decide +kernel
theorem dX3_fork_146 : decode cX3_fork 146 = .ok (.sipush 256, 3) := by decide +kernel
theorem dX3_fork_149 : decode cX3_fork 149 = .ok (.iload_n 2, 1) := by decide +kernel
theorem dX3_fork_150 : decode cX3_fork 150 = .ok (.imul, 1) := by decide +kernel
theorem dX3_fork_151 : decode cX3_fork 151 = .ok (.iload 5, 2) := by decide +kernel
theorem dX3_fork_153 : decode cX3_fork 153 = .ok (.iadd, 1) := by decide +kernel
theorem dX3_fork_154 : decode cX3_fork 154 = .ok (.aload_n 0, 1) := by decide +kernel
theorem dX3_fork_155 : decode cX3_fork 155 = .ok (.getfield 41, 3) := by decide +kernel
theorem dX3_fork_158 : decode cX3_fork 158 = .ok (.sipush 256, 3) := by decide +kernel
theorem dX3_fork_161 : decode cX3_fork 161 = .ok (.iload_n 1, 1) := by decide +kernel
theorem dX3_fork_162 : decode cX3_fork 162 = .ok (.imul, 1) := by decide +kernel
theorem dX3_fork_163 : decode cX3_fork 163 = .ok (.iload 5, 2) := by decide +kernel
theorem dX3_fork_165 : decode cX3_fork 165 = .ok (.iadd, 1) := by decide +kernel
theorem dX3_fork_166 : decode cX3_fork 166 = .ok (.iaload, 1) := by decide +kernel
theorem dX3_fork_167 : decode cX3_fork 167 = .ok (.iastore, 1) := by decide +kernel
theorem dX3_fork_168 : decode cX3_fork 168 = .ok (.iinc 5 1, 3) := by decide +kernel
theorem dX3_fork_171 : decode cX3_fork 171 = .ok (.goto (-40), 3) := by decide +kernel
theorem dX3_fork_174 : decode cX3_fork 174 = .ok (.iload_n 2, 1) := by decide +kernel
theorem dX3_fork_175 : decode cX3_fork 175 = .ok (.ireturn, 1) := by decide +kernel
theorem dX3_users_0 : decode cX3_users 0 = .ok (.iconst 0, 1) := by decide +kernel
theorem dX3_users_1 : decode cX3_users 1 = .ok (.istore_n 2, 1) := by decide +kernel
theorem dX3_users_2 : decode cX3_users 2 = .ok (.iconst 0, 1) := by decide +kernel
theorem dX3_users_3 : decode cX3_users 3 = .ok (.istore_n 3, 1) := by decide +kernel
theorem dX3_users_4 : decode cX3_users 4 = .ok (.iload_n 3, 1) := by decide +kernel
theorem dX3_users_5 : decode cX3_users 5 = .ok (.bipush 16, 2) := by decide +kernel
theorem dX3_users_7 : decode cX3_users 7 = .ok (.if_icmp .ge 64, 3) := by decide +kernel
theorem dX3_users_10 : decode cX3_users 10 = .ok (.iconst 0, 1) := by decide +kernel
theorem dX3_users_11 : decode cX3_users 11 = .ok (.istore 4, 2) := by decide +kernel
theorem dX3_users_13 : decode cX3_users 13 = .ok (.iload 4, 2) := by decide +kernel
theorem dX3_users_15 : decode cX3_users 15 = .ok (.aload_n 0, 1) := by decide +kernel
theorem dX3_users_16 : decode cX3_users 16 = .ok (.getfield 29, 3) := by decide +kernel
theorem dX3_users_19 : decode cX3_users 19 = .ok (.iload_n 3, 1) := by decide +kernel
theorem dX3_users_20 : decode cX3_users 20 = .ok (.iaload, 1) := by decide +kernel
theorem dX3_users_21 : decode cX3_users 21 = .ok (.if_icmp .ge 44, 3) := by decide +kernel
theorem dX3_users_24 : decode cX3_users 24 = .ok (.aload_n 0, 1) := by decide +kernel
theorem dX3_users_25 : decode cX3_users 25 = .ok (.getfield 26, 3) := by decide +kernel
theorem dX3_users_28 : decode cX3_users 28 = .ok (.iload_n 3, 1) := by decide +kernel
theorem dX3_users_29 : decode cX3_users 29 = .ok (.iaload, 1) := by decide +kernel
theorem dX3_users_30 : decode cX3_users 30 = .ok (.iconst 1, 1) := by decide +kernel
theorem dX3_users_31 : decode cX3_users 31 = .ok (.if_icmp .ne 34, 3) := by decide +kernel
theorem dX3_users_34 : decode cX3_users 34 = .ok (.iload_n 2, 1) := by decide +kernel
theorem dX3_users_35 : decode cX3_users 35 = .ok (.aload_n 0, 1) := by decide +kernel
theorem dX3_users_36 : decode cX3_users 36 = .ok (.getfield 41, 3) := by decide +kernel
theorem dX3_users_39 : decode cX3_users 39 = .ok (.sipush 256, 3) := by decide +kernel
theorem dX3_users_42 : decode cX3_users 42 = .ok (.iload_n 3, 1) := by decide +kernel
theorem dX3_users_43 : decode cX3_users 43 = .ok (.imul, 1) := by decide +kernel
theorem dX3_users_44 : decode cX3_users 44 = .ok (.iload 4, 2) := by decide +kernel
theorem dX3_users_46 : decode cX3_users 46 = .ok (.iadd, 1) := by decide +kernel
theorem dX3_users_47 : decode cX3_users 47 = .ok (.iaload, 1) := by decide +kernel
theorem dX3_users_48 : decode cX3_users 48 = .ok (.iload_n 1, 1) := by decide +kernel
theorem dX3_users_49 : decode cX3_users 49 = .ok (.if_icmp .ne 7, 3) := by decide +kernel
theorem dX3_users_52 : decode cX3_users 52 = .ok (.iconst 1, 1) := by decide +kernel
theorem dX3_users_53 : decode cX3_users 53 = .ok (.goto 4, 3) := by decide +kernel
theorem dX3_users_56 : decode cX3_users 56 = .ok (.iconst 0, 1) := by decide +kernel
theorem dX3_users_57 : decode cX3_users 57 = .ok (.iadd, 1) := by decide +kernel
theorem dX3_users_58 : decode cX3_users 58 = .ok (.istore_n 2, 1) := by decide +kernel
theorem dX3_users_59 : decode cX3_users 59 = .ok (.iinc 4 1, 3) := by decide +kernel
theorem dX3_users_62 : decode cX3_users 62 = .ok (.goto (-49), 3) := by decide +kernel
theorem dX3_users_65 : decode cX3_users 65 = .ok (.iinc 3 1, 3) := by decide +kernel
theorem dX3_users_68 : decode cX3_users 68 = .ok (.goto (-64), 3) := by decide +kernel
theorem dX3_users_71 : decode cX3_users 71 = .ok (.iload_n 2, 1) := by decide +kernel
theorem dX3_users_72 : decode cX3_users 72 = .ok (.ireturn, 1) := by decide +kernel
theorem dX3_dropPage_0 : decode cX3_dropPage 0 = .ok (.aload_n 0, 1) := by decide +kernel
theorem dX3_dropPage_1 : decode cX3_dropPage 1 = .ok (.getfield 29, 3) := by decide +kernel
theorem dX3_dropPage_4 : decode cX3_dropPage 4 = .ok (.iload_n 1, 1) := by decide +kernel
theorem dX3_dropPage_5 : decode cX3_dropPage 5 = .ok (.iaload, 1) := by decide +kernel
theorem dX3_dropPage_6 : decode cX3_dropPage 6 = .ok (.iconst 1, 1) := by decide +kernel
theorem dX3_dropPage_7 : decode cX3_dropPage 7 = .ok (.isub, 1) := by decide +kernel
theorem dX3_dropPage_8 : decode cX3_dropPage 8 = .ok (.istore_n 2, 1) := by decide +kernel
theorem dX3_dropPage_9 : decode cX3_dropPage 9 = .ok (.aload_n 0, 1) := by decide +kernel
theorem dX3_dropPage_10 : decode cX3_dropPage 10 = .ok (.getfield 41, 3) := by decide +kernel
theorem dX3_dropPage_13 : decode cX3_dropPage 13 = .ok (.sipush 256, 3) := by decide +kernel
theorem dX3_dropPage_16 : decode cX3_dropPage 16 = .ok (.iload_n 1, 1) := by decide +kernel
theorem dX3_dropPage_17 : decode cX3_dropPage 17 = .ok (.imul, 1) := by decide +kernel
theorem dX3_dropPage_18 : decode cX3_dropPage 18 = .ok (.iload_n 2, 1) := by decide +kernel
theorem dX3_dropPage_19 : decode cX3_dropPage 19 = .ok (.iadd, 1) := by decide +kernel
theorem dX3_dropPage_20 : decode cX3_dropPage 20 = .ok (.iaload, 1) := by decide +kernel
theorem dX3_dropPage_21 : decode cX3_dropPage 21 = .ok (.istore_n 3, 1) := by decide +kernel
theorem dX3_dropPage_22 : decode cX3_dropPage 22 = .ok (.aload_n 0, 1) := by decide +kernel
theorem dX3_dropPage_23 : decode cX3_dropPage 23 = .ok (.iload_n 3, 1) := by decide +kernel
theorem dX3_dropPage_24 : decode cX3_dropPage 24 = .ok (.invokevirtual 104, 3) := by decide +kernel
theorem dX3_dropPage_27 : decode cX3_dropPage 27 = .ok (.iconst 1, 1) := by decide +kernel
theorem dX3_dropPage_28 : decode cX3_dropPage 28 = .ok (.if_icmp .ne 9, 3) := by decide +kernel
theorem dX3_dropPage_31 : decode cX3_dropPage 31 = .ok (.aload_n 0, 1) := by decide +kernel
theorem dX3_dropPage_32 : decode cX3_dropPage 32 = .ok (.iload_n 3, 1) := by decide +kernel
theorem dX3_dropPage_33 : decode cX3_dropPage 33 = .ok (.iconst 0, 1) := by decide +kernel
theorem dX3_dropPage_34 : decode cX3_dropPage 34 = .ok (.invokevirtual 76, 3) := by decide +kernel
theorem dX3_dropPage_37 : decode cX3_dropPage 37 = .ok (.aload_n 0, 1) := by decide +kernel
theorem dX3_dropPage_38 : decode cX3_dropPage 38 = .ok (.getfield 29, 3) := by decide +kernel
theorem dX3_dropPage_41 : decode cX3_dropPage 41 = .ok (.iload_n 1, 1) := by decide +kernel
theorem dX3_dropPage_42 : decode cX3_dropPage 42 = .ok (.iload_n 2, 1) := by decide +kernel
theorem dX3_dropPage_43 : decode cX3_dropPage 43 = .ok (.iastore, 1) := by decide +kernel
theorem dX3_dropPage_44 : decode cX3_dropPage 44 = .ok (.iload_n 2, 1) := by decide +kernel
theorem dX3_dropPage_45 : decode cX3_dropPage 45 = .ok (.bipush 16, 2) := by decide +kernel
theorem dX3_dropPage_47 : decode cX3_dropPage 47 = .ok (.irem, 1) := by decide +kernel
theorem dX3_dropPage_48 : decode cX3_dropPage 48 = .ok (.ifCond .ne 21, 3) := by decide +kernel
theorem dX3_dropPage_51 : decode cX3_dropPage 51 = .ok (.aload_n 0, 1) := by decide +kernel
theorem dX3_dropPage_52 : decode cX3_dropPage 52 = .ok (.aload_n 0, 1) := by decide +kernel
theorem dX3_dropPage_53 : decode cX3_dropPage 53 = .ok (.getfield 44, 3) := by decide +kernel
theorem dX3_dropPage_56 : decode cX3_dropPage 56 = .ok (.bipush 16, 2) := by decide +kernel
theorem dX3_dropPage_58 : decode cX3_dropPage 58 = .ok (.iload_n 1, 1) := by decide +kernel
theorem dX3_dropPage_59 : decode cX3_dropPage 59 = .ok (.imul, 1) := by decide +kernel
theorem dX3_dropPage_60 : decode cX3_dropPage 60 = .ok (.iload_n 2, 1) := by decide +kernel
theorem dX3_dropPage_61 : decode cX3_dropPage 61 = .ok (.bipush 16, 2) := by decide +kernel
theorem dX3_dropPage_63 : decode cX3_dropPage 63 = .ok (.idiv, 1) := by decide +kernel
theorem dX3_dropPage_64 : decode cX3_dropPage 64 = .ok (.iadd, 1) := by decide +kernel
theorem dX3_dropPage_65 : decode cX3_dropPage 65 = .ok (.iaload, 1) := by decide +kernel
theorem dX3_dropPage_66 : decode cX3_dropPage 66 = .ok (.invokevirtual 107, 3) := by decide +kernel
theorem dX3_dropPage_69 : decode cX3_dropPage 69 = .ok (.return_, 1) := by decide +kernel
theorem dX3_grow_0 : decode cX3_grow 0 = .ok (.aload_n 0, 1) := by decide +kernel
theorem dX3_grow_1 : decode cX3_grow 1 = .ok (.iload_n 1, 1) := by decide +kernel
theorem dX3_grow_2 : decode cX3_grow 2 = .ok (.invokevirtual 100, 3) := by decide +kernel
theorem dX3_grow_5 : decode cX3_grow 5 = .ok (.ifCond .eq 16, 3) := by decide +kernel
theorem dX3_grow_8 : decode cX3_grow 8 = .ok (.aload_n 0, 1) := by decide +kernel
theorem dX3_grow_9 : decode cX3_grow 9 = .ok (.getfield 29, 3) := by decide +kernel
theorem dX3_grow_12 : decode cX3_grow 12 = .ok (.iload_n 1, 1) := by decide +kernel
theorem dX3_grow_13 : decode cX3_grow 13 = .ok (.iaload, 1) := by decide +kernel
theorem dX3_grow_14 : decode cX3_grow 14 = .ok (.i2l, 1) := by decide +kernel
theorem dX3_grow_15 : decode cX3_grow 15 = .ok (.iload_n 2, 1) := by decide +kernel
theorem dX3_grow_16 : decode cX3_grow 16 = .ok (.i2l, 1) := by decide +kernel
theorem dX3_grow_17 : decode cX3_grow 17 = .ok (.ladd, 1) := by decide +kernel
theorem dX3_grow_18 : decode cX3_grow 18 = .ok (.goto 6, 3) := by decide +kernel
theorem dX3_grow_21 : decode cX3_grow 21 = .ok (.ldc2_w 111, 3) := by decide +kernel
theorem dX3_grow_24 : decode cX3_grow 24 = .ok (.lstore_n 3, 1) := by decide +kernel
theorem dX3_grow_25 : decode cX3_grow 25 = .ok (.lload_n 3, 1) := by decide +kernel
theorem dX3_grow_26 : decode cX3_grow 26 = .ok (.lconst 0, 1) := by decide +kernel
theorem dX3_grow_27 : decode cX3_grow 27 = .ok (.lcmp, 1) := by decide +kernel
theorem dX3_grow_28 : decode cX3_grow 28 = .ok (.ifCond .lt 11, 3) := by decide +kernel
theorem dX3_grow_31 : decode cX3_grow 31 = .ok (.lload_n 3, 1) := by decide +kernel
theorem dX3_grow_32 : decode cX3_grow 32 = .ok (.ldc2_w 113, 3) := by decide +kernel
theorem dX3_grow_35 : decode cX3_grow 35 = .ok (.lcmp, 1) := by decide +kernel
theorem dX3_grow_36 : decode cX3_grow 36 = .ok (.ifCond .le 6, 3) := by decide +kernel
theorem dX3_grow_39 : decode cX3_grow 39 = .ok (.bipush (-2), 2) := by decide +kernel
theorem dX3_grow_41 : decode cX3_grow 41 = .ok (.ireturn, 1) := by decide +kernel
theorem dX3_grow_42 : decode cX3_grow 42 = .ok (.aload_n 0, 1) := by decide +kernel
theorem dX3_grow_43 : decode cX3_grow 43 = .ok (.getfield 29, 3) := by decide +kernel
theorem dX3_grow_46 : decode cX3_grow 46 = .ok (.iload_n 1, 1) := by decide +kernel
theorem dX3_grow_47 : decode cX3_grow 47 = .ok (.iaload, 1) := by decide +kernel
theorem dX3_grow_48 : decode cX3_grow 48 = .ok (.istore 5, 2) := by decide +kernel
theorem dX3_grow_50 : decode cX3_grow 50 = .ok (.iload_n 2, 1) := by decide +kernel
theorem dX3_grow_51 : decode cX3_grow 51 = .ok (.ifCond .gt 26, 3) := by decide +kernel
theorem dX3_grow_54 : decode cX3_grow 54 = .ok (.aload_n 0, 1) := by decide +kernel
theorem dX3_grow_55 : decode cX3_grow 55 = .ok (.getfield 29, 3) := by decide +kernel
theorem dX3_grow_58 : decode cX3_grow 58 = .ok (.iload_n 1, 1) := by decide +kernel
theorem dX3_grow_59 : decode cX3_grow 59 = .ok (.iaload, 1) := by decide +kernel
theorem dX3_grow_60 : decode cX3_grow 60 = .ok (.i2l, 1) := by decide +kernel
theorem dX3_grow_61 : decode cX3_grow 61 = .ok (.lload_n 3, 1) := by decide +kernel
theorem dX3_grow_62 : decode cX3_grow 62 = .ok (.lcmp, 1) := by decide +kernel
theorem dX3_grow_63 : decode cX3_grow 63 = .ok (.ifCond .le 11, 3) := by decide +kernel
theorem dX3_grow_66 : decode cX3_grow 66 = .ok (.aload_n 0, 1) := by decide +kernel
theorem dX3_grow_67 : decode cX3_grow 67 = .ok (.iload_n 1, 1) := by decide +kernel
theorem dX3_grow_68 : decode cX3_grow 68 = .ok (.invokevirtual 115, 3) := by decide +kernel
theorem dX3_grow_71 : decode cX3_grow 71 = .ok (.goto (-17), 3) := by decide +kernel
theorem dX3_grow_74 : decode cX3_grow 74 = .ok (.iload 5, 2) := by decide +kernel
theorem dX3_grow_76 : decode cX3_grow 76 = .ok (.ireturn, 1) := by decide +kernel
theorem dX3_grow_77 : decode cX3_grow 77 = .ok (.aload_n 0, 1) := by decide +kernel
theorem dX3_grow_78 : decode cX3_grow 78 = .ok (.invokevirtual 87, 3) := by decide +kernel
theorem dX3_grow_81 : decode cX3_grow 81 = .ok (.iload 5, 2) := by decide +kernel
theorem dX3_grow_83 : decode cX3_grow 83 = .ok (.istore 6, 2) := by decide +kernel
theorem dX3_grow_85 : decode cX3_grow 85 = .ok (.iload 6, 2) := by decide +kernel
theorem dX3_grow_87 : decode cX3_grow 87 = .ok (.i2l, 1) := by decide +kernel
theorem dX3_grow_88 : decode cX3_grow 88 = .ok (.lload_n 3, 1) := by decide +kernel
theorem dX3_grow_89 : decode cX3_grow 89 = .ok (.lcmp, 1) := by decide +kernel
theorem dX3_grow_90 : decode cX3_grow 90 = .ok (.ifCond .ge 92, 3) := by decide +kernel
theorem dX3_grow_93 : decode cX3_grow 93 = .ok (.iload 6, 2) := by decide +kernel
theorem dX3_grow_95 : decode cX3_grow 95 = .ok (.bipush 16, 2) := by decide +kernel
theorem dX3_grow_97 : decode cX3_grow 97 = .ok (.irem, 1) := by decide +kernel
theorem dX3_grow_98 : decode cX3_grow 98 = .ok (.ifCond .ne 46, 3) := by decide +kernel
theorem dX3_grow_101 : decode cX3_grow 101 = .ok (.aload_n 0, 1) := by decide +kernel
theorem dX3_grow_102 : decode cX3_grow 102 = .ok (.getfield 44, 3) := by decide +kernel
theorem dX3_grow_105 : decode cX3_grow 105 = .ok (.bipush 16, 2) := by decide +kernel
theorem dX3_grow_107 : decode cX3_grow 107 = .ok (.iload_n 1, 1) := by decide +kernel
theorem dX3_grow_108 : decode cX3_grow 108 = .ok (.imul, 1) := by decide +kernel
theorem dX3_grow_109 : decode cX3_grow 109 = .ok (.iload 6, 2) := by decide +kernel
theorem dX3_grow_111 : decode cX3_grow 111 = .ok (.bipush 16, 2) := by decide +kernel
theorem dX3_grow_113 : decode cX3_grow 113 = .ok (.idiv, 1) := by decide +kernel
theorem dX3_grow_114 : decode cX3_grow 114 = .ok (.iadd, 1) := by decide +kernel
theorem dX3_grow_115 : decode cX3_grow 115 = .ok (.aload_n 0, 1) := by decide +kernel
theorem dX3_grow_116 : decode cX3_grow 116 = .ok (.iconst 2, 1) := by decide +kernel
theorem dX3_grow_117 : decode cX3_grow 117 = .ok (.invokevirtual 90, 3) := by decide +kernel
theorem dX3_grow_120 : decode cX3_grow 120 = .ok (.iastore, 1) := by decide +kernel
theorem dX3_grow_121 : decode cX3_grow 121 = .ok (.aload_n 0, 1) := by decide +kernel
theorem dX3_grow_122 : decode cX3_grow 122 = .ok (.getfield 44, 3) := by decide +kernel
theorem dX3_grow_125 : decode cX3_grow 125 = .ok (.bipush 16, 2) := by decide +kernel
theorem dX3_grow_127 : decode cX3_grow 127 = .ok (.iload_n 1, 1) := by decide +kernel
theorem dX3_grow_128 : decode cX3_grow 128 = .ok (.imul, 1) := by decide +kernel
theorem dX3_grow_129 : decode cX3_grow 129 = .ok (.iload 6, 2) := by decide +kernel
theorem dX3_grow_131 : decode cX3_grow 131 = .ok (.bipush 16, 2) := by decide +kernel
theorem dX3_grow_133 : decode cX3_grow 133 = .ok (.idiv, 1) := by decide +kernel
theorem dX3_grow_134 : decode cX3_grow 134 = .ok (.iadd, 1) := by decide +kernel
theorem dX3_grow_135 : decode cX3_grow 135 = .ok (.iaload, 1) := by decide +kernel
theorem dX3_grow_136 : decode cX3_grow 136 = .ok (.ifCond .ge 8, 3) := by decide +kernel
theorem dX3_grow_139 : decode cX3_grow 139 = .ok (.aload_n 0, 1) := by decide +kernel
theorem dX3_grow_140 : decode cX3_grow 140 = .ok (.invokevirtual 93, 3) := by decide +kernel
theorem dX3_grow_143 : decode cX3_grow 143 = .ok (.ireturn, 1) := by decide +kernel
theorem dX3_grow_144 : decode cX3_grow 144 = .ok (.aload_n 0, 1) := by decide +kernel
theorem dX3_grow_145 : decode cX3_grow 145 = .ok (.iconst 3, 1) := by decide +kernel
theorem dX3_grow_146 : decode cX3_grow 146 = .ok (.invokevirtual 70, 3) := by decide +kernel
theorem dX3_grow_149 : decode cX3_grow 149 = .ok (.istore 7, 2) := by decide +kernel
theorem dX3_grow_151 : decode cX3_grow 151 = .ok (.iload 7, 2) := by decide +kernel
theorem dX3_grow_153 : decode cX3_grow 153 = .ok (.ifCond .ge 8, 3) := by decide +kernel
theorem dX3_grow_156 : decode cX3_grow 156 = .ok (.aload_n 0, 1) := by decide +kernel
theorem dX3_grow_157 : decode cX3_grow 157 = .ok (.invokevirtual 93, 3) := by decide +kernel
theorem dX3_grow_160 : decode cX3_grow 160 = .ok (.ireturn, 1) := by decide +kernel
theorem dX3_grow_161 : decode cX3_grow 161 = .ok (.aload_n 0, 1) := by decide +kernel
theorem dX3_grow_162 : decode cX3_grow 162 = .ok (.getfield 41, 3) := by decide +kernel
theorem dX3_grow_165 : decode cX3_grow 165 = .ok (.sipush 256, 3) := by decide +kernel
theorem dX3_grow_168 : decode cX3_grow 168 = .ok (.iload_n 1, 1) := by decide +kernel
theorem dX3_grow_169 : decode cX3_grow 169 = .ok (.imul, 1) := by decide +kernel
theorem dX3_grow_170 : decode cX3_grow 170 = .ok (.iload 6, 2) := by decide +kernel
theorem dX3_grow_172 : decode cX3_grow 172 = .ok (.iadd, 1) := by decide +kernel
theorem dX3_grow_173 : decode cX3_grow 173 = .ok (.iload 7, 2) := by decide +kernel
theorem dX3_grow_175 : decode cX3_grow 175 = .ok (.iastore, 1) := by decide +kernel
theorem dX3_grow_176 : decode cX3_grow 176 = .ok (.iinc 6 1, 3) := by decide +kernel
theorem dX3_grow_179 : decode cX3_grow 179 = .ok (.goto (-94), 3) := by decide +kernel
theorem dX3_grow_182 : decode cX3_grow 182 = .ok (.iload 5, 2) := by decide +kernel
theorem dX3_grow_184 : decode cX3_grow 184 = .ok (.istore 6, 2) := by decide +kernel
theorem dX3_grow_186 : decode cX3_grow 186 = .ok (.iload 6, 2) := by decide +kernel
theorem dX3_grow_188 : decode cX3_grow 188 = .ok (.i2l, 1) := by decide +kernel
theorem dX3_grow_189 : decode cX3_grow 189 = .ok (.lload_n 3, 1) := by decide +kernel
theorem dX3_grow_190 : decode cX3_grow 190 = .ok (.lcmp, 1) := by decide +kernel
theorem dX3_grow_191 : decode cX3_grow 191 = .ok (.ifCond .ge 50, 3) := by decide +kernel
theorem dX3_grow_194 : decode cX3_grow 194 = .ok (.iconst 0, 1) := by decide +kernel
theorem dX3_grow_195 : decode cX3_grow 195 = .ok (.istore 7, 2) := by decide +kernel
theorem dX3_grow_197 : decode cX3_grow 197 = .ok (.iload 7, 2) := by decide +kernel
theorem dX3_grow_199 : decode cX3_grow 199 = .ok (.bipush 64, 2) := by decide +kernel
theorem dX3_grow_201 : decode cX3_grow 201 = .ok (.if_icmp .ge 34, 3) := by decide +kernel
theorem dX3_grow_204 : decode cX3_grow 204 = .ok (.aload_n 0, 1) := by decide +kernel
theorem dX3_grow_205 : decode cX3_grow 205 = .ok (.getfield 20, 3) := by decide +kernel
theorem dX3_grow_208 : decode cX3_grow 208 = .ok (.bipush 64, 2) := by decide +kernel
theorem dX3_grow_210 : decode cX3_grow 210 = .ok (.aload_n 0, 1) := by decide +kernel
theorem dX3_grow_211 : decode cX3_grow 211 = .ok (.getfield 41, 3) := by decide +kernel
theorem dX3_grow_214 : decode cX3_grow 214 = .ok (.sipush 256, 3) := by decide +kernel
theorem dX3_grow_217 : decode cX3_grow 217 = .ok (.iload_n 1, 1) := by decide +kernel
theorem dX3_grow_218 : decode cX3_grow 218 = .ok (.imul, 1) := by decide +kernel
theorem dX3_grow_219 : decode cX3_grow 219 = .ok (.iload 6, 2) := by decide +kernel
theorem dX3_grow_221 : decode cX3_grow 221 = .ok (.iadd, 1) := by decide +kernel
theorem dX3_grow_222 : decode cX3_grow 222 = .ok (.iaload, 1) := by decide +kernel
theorem dX3_grow_223 : decode cX3_grow 223 = .ok (.imul, 1) := by decide +kernel
theorem dX3_grow_224 : decode cX3_grow 224 = .ok (.iload 7, 2) := by decide +kernel
theorem dX3_grow_226 : decode cX3_grow 226 = .ok (.iadd, 1) := by decide +kernel
theorem dX3_grow_227 : decode cX3_grow 227 = .ok (.iconst 0, 1) := by decide +kernel
theorem dX3_grow_228 : decode cX3_grow 228 = .ok (.iastore, 1) := by decide +kernel
theorem dX3_grow_229 : decode cX3_grow 229 = .ok (.iinc 7 1, 3) := by decide +kernel
theorem dX3_grow_232 : decode cX3_grow 232 = .ok (.goto (-35), 3) := by decide +kernel
theorem dX3_grow_235 : decode cX3_grow 235 = .ok (.iinc 6 1, 3) := by decide +kernel
theorem dX3_grow_238 : decode cX3_grow 238 = .ok (.goto (-52), 3) := by decide +kernel
theorem dX3_grow_241 : decode cX3_grow 241 = .ok (.aload_n 0, 1) := by decide +kernel
theorem dX3_grow_242 : decode cX3_grow 242 = .ok (.getfield 29, 3) := by decide +kernel
theorem dX3_grow_245 : decode cX3_grow 245 = .ok (.iload_n 1, 1) := by decide +kernel
theorem dX3_grow_246 : decode cX3_grow 246 = .ok (.lload_n 3, 1) := by decide +kernel
theorem dX3_grow_247 : decode cX3_grow 247 = .ok (.l2i, 1) := by decide +kernel
theorem dX3_grow_248 : decode cX3_grow 248 = .ok (.iastore, 1) := by decide +kernel
theorem dX3_grow_249 : decode cX3_grow 249 = .ok (.iload 5, 2) := by decide +kernel
theorem dX3_grow_251 : decode cX3_grow 251 = .ok (.ireturn, 1) := by decide +kernel
theorem dX3_has_0 : decode cX3_has 0 = .ok (.aload_n 0, 1) := by decide +kernel
theorem dX3_has_1 : decode cX3_has 1 = .ok (.iload_n 1, 1) := by decide +kernel
theorem dX3_has_2 : decode cX3_has 2 = .ok (.invokevirtual 100, 3) := by decide +kernel
theorem dX3_has_5 : decode cX3_has 5 = .ok (.ifCond .eq 24, 3) := by decide +kernel
theorem dX3_has_8 : decode cX3_has 8 = .ok (.iload_n 2, 1) := by decide +kernel
theorem dX3_has_9 : decode cX3_has 9 = .ok (.ifCond .lt 20, 3) := by decide +kernel
theorem dX3_has_12 : decode cX3_has 12 = .ok (.iload_n 2, 1) := by decide +kernel
theorem dX3_has_13 : decode cX3_has 13 = .ok (.bipush 64, 2) := by decide +kernel
theorem dX3_has_15 : decode cX3_has 15 = .ok (.idiv, 1) := by decide +kernel
theorem dX3_has_16 : decode cX3_has 16 = .ok (.aload_n 0, 1) := by decide +kernel
theorem dX3_has_17 : decode cX3_has 17 = .ok (.getfield 29, 3) := by decide +kernel
theorem dX3_has_20 : decode cX3_has 20 = .ok (.iload_n 1, 1) := by decide +kernel
theorem dX3_has_21 : decode cX3_has 21 = .ok (.iaload, 1) := by decide +kernel
theorem dX3_has_22 : decode cX3_has 22 = .ok (.if_icmp .ge 7, 3) := by decide +kernel
theorem dX3_has_25 : decode cX3_has 25 = .ok (.iconst 1, 1) := by decide +kernel
theorem dX3_has_26 : decode cX3_has 26 = .ok (.goto 4, 3) := by decide +kernel
theorem dX3_has_29 : decode cX3_has 29 = .ok (.iconst 0, 1) := by decide +kernel
theorem dX3_has_30 : decode cX3_has 30 = .ok (.ireturn, 1) := by decide +kernel
theorem dX3_load_0 : decode cX3_load 0 = .ok (.aload_n 0, 1) := by decide +kernel
theorem dX3_load_1 : decode cX3_load 1 = .ok (.iload_n 1, 1) := by decide +kernel
theorem dX3_load_2 : decode cX3_load 2 = .ok (.iload_n 2, 1) := by decide +kernel
theorem dX3_load_3 : decode cX3_load 3 = .ok (.invokevirtual 118, 3) := by decide +kernel
theorem dX3_load_6 : decode cX3_load 6 = .ok (.ifCond .eq 34, 3) := by decide +kernel
theorem dX3_load_9 : decode cX3_load 9 = .ok (.aload_n 0, 1) := by decide +kernel
theorem dX3_load_10 : decode cX3_load 10 = .ok (.getfield 20, 3) := by decide +kernel
theorem dX3_load_13 : decode cX3_load 13 = .ok (.bipush 64, 2) := by decide +kernel
theorem dX3_load_15 : decode cX3_load 15 = .ok (.aload_n 0, 1) := by decide +kernel
theorem dX3_load_16 : decode cX3_load 16 = .ok (.getfield 41, 3) := by decide +kernel
theorem dX3_load_19 : decode cX3_load 19 = .ok (.sipush 256, 3) := by decide +kernel
theorem dX3_load_22 : decode cX3_load 22 = .ok (.iload_n 1, 1) := by decide +kernel
theorem dX3_load_23 : decode cX3_load 23 = .ok (.imul, 1) := by decide +kernel
theorem dX3_load_24 : decode cX3_load 24 = .ok (.iload_n 2, 1) := by decide +kernel
theorem dX3_load_25 : decode cX3_load 25 = .ok (.bipush 64, 2) := by decide +kernel
theorem dX3_load_27 : decode cX3_load 27 = .ok (.idiv, 1) := by decide +kernel
theorem dX3_load_28 : decode cX3_load 28 = .ok (.iadd, 1) := by decide +kernel
theorem dX3_load_29 : decode cX3_load 29 = .ok (.iaload, 1) := by decide +kernel
theorem dX3_load_30 : decode cX3_load 30 = .ok (.imul, 1) := by decide +kernel
theorem dX3_load_31 : decode cX3_load 31 = .ok (.iload_n 2, 1) := by decide +kernel
theorem dX3_load_32 : decode cX3_load 32 = .ok (.bipush 64, 2) := by decide +kernel
theorem dX3_load_34 : decode cX3_load 34 = .ok (.irem, 1) := by decide +kernel
theorem dX3_load_35 : decode cX3_load 35 = .ok (.iadd, 1) := by decide +kernel
theorem dX3_load_36 : decode cX3_load 36 = .ok (.iaload, 1) := by decide +kernel
theorem dX3_load_37 : decode cX3_load 37 = .ok (.goto 4, 3) := by decide +kernel
theorem dX3_load_40 : decode cX3_load 40 = .ok (.iconst 0, 1) := by decide +kernel
theorem dX3_load_41 : decode cX3_load 41 = .ok (.ireturn, 1) := by decide +kernel
theorem dX3_store_0 : decode cX3_store 0 = .ok (.aload_n 0, 1) := by decide +kernel
theorem dX3_store_1 : decode cX3_store 1 = .ok (.iload_n 1, 1) := by decide +kernel
theorem dX3_store_2 : decode cX3_store 2 = .ok (.invokevirtual 100, 3) := by decide +kernel
theorem dX3_store_5 : decode cX3_store 5 = .ok (.ifCond .ne 6, 3) := by decide +kernel
theorem dX3_store_8 : decode cX3_store 8 = .ok (.bipush (-2), 2) := by decide +kernel
theorem dX3_store_10 : decode cX3_store 10 = .ok (.ireturn, 1) := by decide +kernel
theorem dX3_store_11 : decode cX3_store 11 = .ok (.aload_n 0, 1) := by decide +kernel
theorem dX3_store_12 : decode cX3_store 12 = .ok (.iload_n 1, 1) := by decide +kernel
theorem dX3_store_13 : decode cX3_store 13 = .ok (.iload_n 2, 1) := by decide +kernel
theorem dX3_store_14 : decode cX3_store 14 = .ok (.invokevirtual 118, 3) := by decide +kernel
theorem dX3_store_17 : decode cX3_store 17 = .ok (.ifCond .ne 6, 3) := by decide +kernel
theorem dX3_store_20 : decode cX3_store 20 = .ok (.bipush (-5), 2) := by decide +kernel
theorem dX3_store_22 : decode cX3_store 22 = .ok (.ireturn, 1) := by decide +kernel
theorem dX3_store_23 : decode cX3_store 23 = .ok (.sipush 256, 3) := by decide +kernel
theorem dX3_store_26 : decode cX3_store 26 = .ok (.iload_n 1, 1) := by decide +kernel
theorem dX3_store_27 : decode cX3_store 27 = .ok (.imul, 1) := by decide +kernel
theorem dX3_store_28 : decode cX3_store 28 = .ok (.iload_n 2, 1) := by decide +kernel
theorem dX3_store_29 : decode cX3_store 29 = .ok (.bipush 64, 2) := by decide +kernel
theorem dX3_store_31 : decode cX3_store 31 = .ok (.idiv, 1) := by decide +kernel
theorem dX3_store_32 : decode cX3_store 32 = .ok (.iadd, 1) := by decide +kernel
theorem dX3_store_33 : decode cX3_store 33 = .ok (.istore 4, 2) := by decide +kernel
theorem dX3_store_35 : decode cX3_store 35 = .ok (.aload_n 0, 1) := by decide +kernel
theorem dX3_store_36 : decode cX3_store 36 = .ok (.getfield 41, 3) := by decide +kernel
theorem dX3_store_39 : decode cX3_store 39 = .ok (.iload 4, 2) := by decide +kernel
theorem dX3_store_41 : decode cX3_store 41 = .ok (.iaload, 1) := by decide +kernel
theorem dX3_store_42 : decode cX3_store 42 = .ok (.istore 5, 2) := by decide +kernel
theorem dX3_store_44 : decode cX3_store 44 = .ok (.aload_n 0, 1) := by decide +kernel
theorem dX3_store_45 : decode cX3_store 45 = .ok (.iload 5, 2) := by decide +kernel
theorem dX3_store_47 : decode cX3_store 47 = .ok (.invokevirtual 104, 3) := by decide +kernel
theorem dX3_store_50 : decode cX3_store 50 = .ok (.iconst 1, 1) := by decide +kernel
theorem dX3_store_51 : decode cX3_store 51 = .ok (.if_icmp .le 89, 3) := by decide +kernel
theorem dX3_store_54 : decode cX3_store 54 = .ok (.aload_n 0, 1) := by decide +kernel
theorem dX3_store_55 : decode cX3_store 55 = .ok (.invokevirtual 87, 3) := by decide +kernel
theorem dX3_store_58 : decode cX3_store 58 = .ok (.aload_n 0, 1) := by decide +kernel
theorem dX3_store_59 : decode cX3_store 59 = .ok (.iconst 3, 1) := by decide +kernel
theorem dX3_store_60 : decode cX3_store 60 = .ok (.invokevirtual 70, 3) := by decide +kernel
theorem dX3_store_63 : decode cX3_store 63 = .ok (.istore 6, 2) := by decide +kernel
theorem dX3_store_65 : decode cX3_store 65 = .ok (.iload 6, 2) := by decide +kernel
theorem dX3_store_67 : decode cX3_store 67 = .ok (.ifCond .ge 8, 3) := by decide +kernel
theorem dX3_store_70 : decode cX3_store 70 = .ok (.aload_n 0, 1) := by decide +kernel
theorem dX3_store_71 : decode cX3_store 71 = .ok (.invokevirtual 93, 3) := by decide +kernel
theorem dX3_store_74 : decode cX3_store 74 = .ok (.ireturn, 1) := by decide +kernel
theorem dX3_store_75 : decode cX3_store 75 = .ok (.iconst 0, 1) := by decide +kernel
theorem dX3_store_76 : decode cX3_store 76 = .ok (.istore 7, 2) := by decide +kernel
theorem dX3_store_78 : decode cX3_store 78 = .ok (.iload 7, 2) := by decide +kernel
theorem dX3_store_80 : decode cX3_store 80 = .ok (.bipush 64, 2) := by decide +kernel
theorem dX3_store_82 : decode cX3_store 82 = .ok (.if_icmp .ge 35, 3) := by decide +kernel
theorem dX3_store_85 : decode cX3_store 85 = .ok (.aload_n 0, 1) := by decide +kernel
theorem dX3_store_86 : decode cX3_store 86 = .ok (.getfield 20, 3) := by decide +kernel
theorem dX3_store_89 : decode cX3_store 89 = .ok (.bipush 64, 2) := by decide +kernel
theorem dX3_store_91 : decode cX3_store 91 = .ok (.iload 6, 2) := by decide +kernel
theorem dX3_store_93 : decode cX3_store 93 = .ok (.imul, 1) := by decide +kernel
theorem dX3_store_94 : decode cX3_store 94 = .ok (.iload 7, 2) := by decide +kernel
theorem dX3_store_96 : decode cX3_store 96 = .ok (.iadd, 1) := by decide +kernel
theorem dX3_store_97 : decode cX3_store 97 = .ok (.aload_n 0, 1) := by decide +kernel
theorem dX3_store_98 : decode cX3_store 98 = .ok (.getfield 20, 3) := by decide +kernel
theorem dX3_store_101 : decode cX3_store 101 = .ok (.bipush 64, 2) := by decide +kernel
theorem dX3_store_103 : decode cX3_store 103 = .ok (.iload 5, 2) := by decide +kernel
theorem dX3_store_105 : decode cX3_store 105 = .ok (.imul, 1) := by decide +kernel
theorem dX3_store_106 : decode cX3_store 106 = .ok (.iload 7, 2) := by decide +kernel
theorem dX3_store_108 : decode cX3_store 108 = .ok (.iadd, 1) := by decide +kernel
theorem dX3_store_109 : decode cX3_store 109 = .ok (.iaload, 1) := by decide +kernel
theorem dX3_store_110 : decode cX3_store 110 = .ok (.iastore, 1) := by decide +kernel
theorem dX3_store_111 : decode cX3_store 111 = .ok (.iinc 7 1, 3) := by decide +kernel
theorem dX3_store_114 : decode cX3_store 114 = .ok (.goto (-36), 3) := by decide +kernel
theorem dX3_store_117 : decode cX3_store 117 = .ok (.aload_n 0, 1) := by decide +kernel
theorem dX3_store_118 : decode cX3_store 118 = .ok (.dup, 1) := by decide +kernel
theorem dX3_store_119 : decode cX3_store 119 = .ok (.getfield 122, 3) := by decide +kernel
theorem dX3_store_122 : decode cX3_store 122 = .ok (.iconst 1, 1) := by decide +kernel
theorem dX3_store_123 : decode cX3_store 123 = .ok (.iadd, 1) := by decide +kernel
theorem dX3_store_124 : decode cX3_store 124 = .ok (.putfield 122, 3) := by decide +kernel
theorem dX3_store_127 : decode cX3_store 127 = .ok (.aload_n 0, 1) := by decide +kernel
theorem dX3_store_128 : decode cX3_store 128 = .ok (.getfield 41, 3) := by decide +kernel
theorem dX3_store_131 : decode cX3_store 131 = .ok (.iload 4, 2) := by decide +kernel
theorem dX3_store_133 : decode cX3_store 133 = .ok (.iload 6, 2) := by decide +kernel
theorem dX3_store_135 : decode cX3_store 135 = .ok (.iastore, 1) := by decide +kernel
theorem dX3_store_136 : decode cX3_store 136 = .ok (.iload 6, 2) := by decide +kernel
theorem dX3_store_138 : decode cX3_store 138 = .ok (.istore 5, 2) := by decide +kernel
theorem dX3_store_140 : decode cX3_store 140 = .ok (.aload_n 0, 1) := by decide +kernel
theorem dX3_store_141 : decode cX3_store 141 = .ok (.getfield 20, 3) := by decide +kernel
theorem dX3_store_144 : decode cX3_store 144 = .ok (.bipush 64, 2) := by decide +kernel
theorem dX3_store_146 : decode cX3_store 146 = .ok (.iload 5, 2) := by decide +kernel
theorem dX3_store_148 : decode cX3_store 148 = .ok (.imul, 1) := by decide +kernel
theorem dX3_store_149 : decode cX3_store 149 = .ok (.iload_n 2, 1) := by decide +kernel
theorem dX3_store_150 : decode cX3_store 150 = .ok (.bipush 64, 2) := by decide +kernel
theorem dX3_store_152 : decode cX3_store 152 = .ok (.irem, 1) := by decide +kernel
theorem dX3_store_153 : decode cX3_store 153 = .ok (.iadd, 1) := by decide +kernel
theorem dX3_store_154 : decode cX3_store 154 = .ok (.iload_n 3, 1) := by decide +kernel
theorem dX3_store_155 : decode cX3_store 155 = .ok (.iastore, 1) := by decide +kernel
theorem dX3_store_156 : decode cX3_store 156 = .ok (.iconst 0, 1) := by decide +kernel
theorem dX3_store_157 : decode cX3_store 157 = .ok (.ireturn, 1) := by decide +kernel
theorem dX3_placeInRow_0 : decode cX3_placeInRow 0 = .ok (.iconst 0, 1) := by decide +kernel
theorem dX3_placeInRow_1 : decode cX3_placeInRow 1 = .ok (.istore_n 2, 1) := by decide +kernel
theorem dX3_placeInRow_2 : decode cX3_placeInRow 2 = .ok (.iload_n 2, 1) := by decide +kernel
theorem dX3_placeInRow_3 : decode cX3_placeInRow 3 = .ok (.aload_n 0, 1) := by decide +kernel
theorem dX3_placeInRow_4 : decode cX3_placeInRow 4 = .ok (.getfield 80, 3) := by decide +kernel
theorem dX3_placeInRow_7 : decode cX3_placeInRow 7 = .ok (.if_icmp .ge 21, 3) := by decide +kernel
theorem dX3_placeInRow_10 : decode cX3_placeInRow 10 = .ok (.aload_n 0, 1) := by decide +kernel
theorem dX3_placeInRow_11 : decode cX3_placeInRow 11 = .ok (.getfield 47, 3) := by decide +kernel
theorem dX3_placeInRow_14 : decode cX3_placeInRow 14 = .ok (.iload_n 2, 1) := by decide +kernel
theorem dX3_placeInRow_15 : decode cX3_placeInRow 15 = .ok (.iaload, 1) := by decide +kernel
theorem dX3_placeInRow_16 : decode cX3_placeInRow 16 = .ok (.iload_n 1, 1) := by decide +kernel
theorem dX3_placeInRow_17 : decode cX3_placeInRow 17 = .ok (.if_icmp .ne 5, 3) := by decide +kernel
theorem dX3_placeInRow_20 : decode cX3_placeInRow 20 = .ok (.iload_n 2, 1) := by decide +kernel
theorem dX3_placeInRow_21 : decode cX3_placeInRow 21 = .ok (.ireturn, 1) := by decide +kernel
theorem dX3_placeInRow_22 : decode cX3_placeInRow 22 = .ok (.iinc 2 1, 3) := by decide +kernel
theorem dX3_placeInRow_25 : decode cX3_placeInRow 25 = .ok (.goto (-23), 3) := by decide +kernel
theorem dX3_placeInRow_28 : decode cX3_placeInRow 28 = .ok (.iconst (-1), 1) := by decide +kernel
theorem dX3_placeInRow_29 : decode cX3_placeInRow 29 = .ok (.ireturn, 1) := by decide +kernel
theorem dX3_vanish_0 : decode cX3_vanish 0 = .ok (.aload_n 0, 1) := by decide +kernel
theorem dX3_vanish_1 : decode cX3_vanish 1 = .ok (.getfield 26, 3) := by decide +kernel
theorem dX3_vanish_4 : decode cX3_vanish 4 = .ok (.iload_n 1, 1) := by decide +kernel
theorem dX3_vanish_5 : decode cX3_vanish 5 = .ok (.iconst 0, 1) := by decide +kernel
theorem dX3_vanish_6 : decode cX3_vanish 6 = .ok (.iastore, 1) := by decide +kernel
theorem dX3_vanish_7 : decode cX3_vanish 7 = .ok (.aload_n 0, 1) := by decide +kernel
theorem dX3_vanish_8 : decode cX3_vanish 8 = .ok (.aload_n 0, 1) := by decide +kernel
theorem dX3_vanish_9 : decode cX3_vanish 9 = .ok (.getfield 38, 3) := by decide +kernel
theorem dX3_vanish_12 : decode cX3_vanish 12 = .ok (.iload_n 1, 1) := by decide +kernel
theorem dX3_vanish_13 : decode cX3_vanish 13 = .ok (.iaload, 1) := by decide +kernel
theorem dX3_vanish_14 : decode cX3_vanish 14 = .ok (.invokevirtual 107, 3) := by decide +kernel
theorem dX3_vanish_17 : decode cX3_vanish 17 = .ok (.return_, 1) := by decide +kernel
theorem dX3_exit_0 : decode cX3_exit 0 = .ok (.aload_n 0, 1) := by decide +kernel
theorem dX3_exit_1 : decode cX3_exit 1 = .ok (.iload_n 1, 1) := by decide +kernel
theorem dX3_exit_2 : decode cX3_exit 2 = .ok (.invokevirtual 100, 3) := by decide +kernel
theorem dX3_exit_5 : decode cX3_exit 5 = .ok (.ifCond .ne 6, 3) := by decide +kernel
theorem dX3_exit_8 : decode cX3_exit 8 = .ok (.bipush (-2), 2) := by decide +kernel
theorem dX3_exit_10 : decode cX3_exit 10 = .ok (.ireturn, 1) := by decide +kernel
theorem dX3_exit_11 : decode cX3_exit 11 = .ok (.aload_n 0, 1) := by decide +kernel
theorem dX3_exit_12 : decode cX3_exit 12 = .ok (.iload_n 1, 1) := by decide +kernel
theorem dX3_exit_13 : decode cX3_exit 13 = .ok (.invokevirtual 125, 3) := by decide +kernel
theorem dX3_exit_16 : decode cX3_exit 16 = .ok (.istore_n 3, 1) := by decide +kernel
theorem dX3_exit_17 : decode cX3_exit 17 = .ok (.aload_n 0, 1) := by decide +kernel
theorem dX3_exit_18 : decode cX3_exit 18 = .ok (.dup, 1) := by decide +kernel
theorem dX3_exit_19 : decode cX3_exit 19 = .ok (.getfield 80, 3) := by decide +kernel
theorem dX3_exit_22 : decode cX3_exit 22 = .ok (.iconst 1, 1) := by decide +kernel
theorem dX3_exit_23 : decode cX3_exit 23 = .ok (.isub, 1) := by decide +kernel
theorem dX3_exit_24 : decode cX3_exit 24 = .ok (.putfield 80, 3) := by decide +kernel
theorem dX3_exit_27 : decode cX3_exit 27 = .ok (.iload_n 3, 1) := by decide +kernel
theorem dX3_exit_28 : decode cX3_exit 28 = .ok (.istore 4, 2) := by decide +kernel
theorem dX3_exit_30 : decode cX3_exit 30 = .ok (.iload 4, 2) := by decide +kernel
theorem dX3_exit_32 : decode cX3_exit 32 = .ok (.aload_n 0, 1) := by decide +kernel
theorem dX3_exit_33 : decode cX3_exit 33 = .ok (.getfield 80, 3) := by decide +kernel
theorem dX3_exit_36 : decode cX3_exit 36 = .ok (.if_icmp .ge 25, 3) := by decide +kernel
theorem dX3_exit_39 : decode cX3_exit 39 = .ok (.aload_n 0, 1) := by decide +kernel
theorem dX3_exit_40 : decode cX3_exit 40 = .ok (.getfield 47, 3) := by decide +kernel
theorem dX3_exit_43 : decode cX3_exit 43 = .ok (.iload 4, 2) := by decide +kernel
theorem dX3_exit_45 : decode cX3_exit 45 = .ok (.aload_n 0, 1) := by decide +kernel
theorem dX3_exit_46 : decode cX3_exit 46 = .ok (.getfield 47, 3) := by decide +kernel
theorem dX3_exit_49 : decode cX3_exit 49 = .ok (.iload 4, 2) := by decide +kernel
theorem dX3_exit_51 : decode cX3_exit 51 = .ok (.iconst 1, 1) := by decide +kernel
theorem dX3_exit_52 : decode cX3_exit 52 = .ok (.iadd, 1) := by decide +kernel
theorem dX3_exit_53 : decode cX3_exit 53 = .ok (.iaload, 1) := by decide +kernel
theorem dX3_exit_54 : decode cX3_exit 54 = .ok (.iastore, 1) := by decide +kernel
theorem dX3_exit_55 : decode cX3_exit 55 = .ok (.iinc 4 1, 3) := by decide +kernel
theorem dX3_exit_58 : decode cX3_exit 58 = .ok (.goto (-28), 3) := by decide +kernel
theorem dX3_exit_61 : decode cX3_exit 61 = .ok (.aload_n 0, 1) := by decide +kernel
theorem dX3_exit_62 : decode cX3_exit 62 = .ok (.getfield 29, 3) := by decide +kernel
theorem dX3_exit_65 : decode cX3_exit 65 = .ok (.iload_n 1, 1) := by decide +kernel
theorem dX3_exit_66 : decode cX3_exit 66 = .ok (.iaload, 1) := by decide +kernel
theorem dX3_exit_67 : decode cX3_exit 67 = .ok (.ifCond .le 11, 3) := by decide +kernel
theorem dX3_exit_70 : decode cX3_exit 70 = .ok (.aload_n 0, 1) := by decide +kernel
theorem dX3_exit_71 : decode cX3_exit 71 = .ok (.iload_n 1, 1) := by decide +kernel
theorem dX3_exit_72 : decode cX3_exit 72 = .ok (.invokevirtual 115, 3) := by decide +kernel
theorem dX3_exit_75 : decode cX3_exit 75 = .ok (.goto (-14), 3) := by decide +kernel
theorem dX3_exit_78 : decode cX3_exit 78 = .ok (.iconst 0, 1) := by decide +kernel
theorem dX3_exit_79 : decode cX3_exit 79 = .ok (.istore 4, 2) := by decide +kernel
theorem dX3_exit_81 : decode cX3_exit 81 = .ok (.iload 4, 2) := by decide +kernel
theorem dX3_exit_83 : decode cX3_exit 83 = .ok (.bipush 16, 2) := by decide +kernel
theorem dX3_exit_85 : decode cX3_exit 85 = .ok (.if_icmp .ge 55, 3) := by decide +kernel
theorem dX3_exit_88 : decode cX3_exit 88 = .ok (.aload_n 0, 1) := by decide +kernel
theorem dX3_exit_89 : decode cX3_exit 89 = .ok (.getfield 26, 3) := by decide +kernel
theorem dX3_exit_92 : decode cX3_exit 92 = .ok (.iload 4, 2) := by decide +kernel
theorem dX3_exit_94 : decode cX3_exit 94 = .ok (.iaload, 1) := by decide +kernel
theorem dX3_exit_95 : decode cX3_exit 95 = .ok (.ifCond .eq 39, 3) := by decide +kernel
theorem dX3_exit_98 : decode cX3_exit 98 = .ok (.aload_n 0, 1) := by decide +kernel
theorem dX3_exit_99 : decode cX3_exit 99 = .ok (.getfield 32, 3) := by decide +kernel
theorem dX3_exit_102 : decode cX3_exit 102 = .ok (.iload 4, 2) := by decide +kernel
theorem dX3_exit_104 : decode cX3_exit 104 = .ok (.iaload, 1) := by decide +kernel
theorem dX3_exit_105 : decode cX3_exit 105 = .ok (.iload_n 1, 1) := by decide +kernel
theorem dX3_exit_106 : decode cX3_exit 106 = .ok (.if_icmp .ne 28, 3) := by decide +kernel
theorem dX3_exit_109 : decode cX3_exit 109 = .ok (.aload_n 0, 1) := by decide +kernel
theorem dX3_exit_110 : decode cX3_exit 110 = .ok (.getfield 26, 3) := by decide +kernel
theorem dX3_exit_113 : decode cX3_exit 113 = .ok (.iload 4, 2) := by decide +kernel
theorem dX3_exit_115 : decode cX3_exit 115 = .ok (.iaload, 1) := by decide +kernel
theorem dX3_exit_116 : decode cX3_exit 116 = .ok (.iconst 2, 1) := by decide +kernel
theorem dX3_exit_117 : decode cX3_exit 117 = .ok (.if_icmp .ne 9, 3) := by decide +kernel
theorem dX3_exit_120 : decode cX3_exit 120 = .ok (.aload_n 0, 1) := by decide +kernel
theorem dX3_exit_121 : decode cX3_exit 121 = .ok (.iload 4, 2) := by decide +kernel
theorem dX3_exit_123 : decode cX3_exit 123 = .ok (.invokevirtual 128, 3) := by decide +kernel
theorem dX3_exit_126 : decode cX3_exit 126 = .ok (.aload_n 0, 1) := by decide +kernel
theorem dX3_exit_127 : decode cX3_exit 127 = .ok (.getfield 32, 3) := by decide +kernel
theorem dX3_exit_130 : decode cX3_exit 130 = .ok (.iload 4, 2) := by decide +kernel
theorem dX3_exit_132 : decode cX3_exit 132 = .ok (.iconst (-1), 1) := by decide +kernel
theorem dX3_exit_133 : decode cX3_exit 133 = .ok (.iastore, 1) := by decide +kernel
theorem dX3_exit_134 : decode cX3_exit 134 = .ok (.iinc 4 1, 3) := by decide +kernel
theorem dX3_exit_137 : decode cX3_exit 137 = .ok (.goto (-56), 3) := by decide +kernel
theorem dX3_exit_140 : decode cX3_exit 140 = .ok (.aload_n 0, 1) := by decide +kernel
theorem dX3_exit_141 : decode cX3_exit 141 = .ok (.getfield 32, 3) := by decide +kernel
theorem dX3_exit_144 : decode cX3_exit 144 = .ok (.iload_n 1, 1) := by decide +kernel
theorem dX3_exit_145 : decode cX3_exit 145 = .ok (.iaload, 1) := by decide +kernel
theorem dX3_exit_146 : decode cX3_exit 146 = .ok (.iconst (-1), 1) := by decide +kernel
theorem dX3_exit_147 : decode cX3_exit 147 = .ok (.if_icmp .ne 11, 3) := by decide +kernel
theorem dX3_exit_150 : decode cX3_exit 150 = .ok (.aload_n 0, 1) := by decide +kernel
theorem dX3_exit_151 : decode cX3_exit 151 = .ok (.iload_n 1, 1) := by decide +kernel
theorem dX3_exit_152 : decode cX3_exit 152 = .ok (.invokevirtual 128, 3) := by decide +kernel
theorem dX3_exit_155 : decode cX3_exit 155 = .ok (.goto 17, 3) := by decide +kernel
theorem dX3_exit_158 : decode cX3_exit 158 = .ok (.aload_n 0, 1) := by decide +kernel
theorem dX3_exit_159 : decode cX3_exit 159 = .ok (.getfield 26, 3) := by decide +kernel
theorem dX3_exit_162 : decode cX3_exit 162 = .ok (.iload_n 1, 1) := by decide +kernel
theorem dX3_exit_163 : decode cX3_exit 163 = .ok (.iconst 2, 1) := by decide +kernel
theorem dX3_exit_164 : decode cX3_exit 164 = .ok (.iastore, 1) := by decide +kernel
theorem dX3_exit_165 : decode cX3_exit 165 = .ok (.aload_n 0, 1) := by decide +kernel
theorem dX3_exit_166 : decode cX3_exit 166 = .ok (.getfield 35, 3) := by decide +kernel
theorem dX3_exit_169 : decode cX3_exit 169 = .ok (.iload_n 1, 1) := by decide +kernel
theorem dX3_exit_170 : decode cX3_exit 170 = .ok (.iload_n 2, 1) := by decide +kernel
theorem dX3_exit_171 : decode cX3_exit 171 = .ok (.iastore, 1) := by decide +kernel
theorem dX3_exit_172 : decode cX3_exit 172 = .ok (.iconst 0, 1) := by decide +kernel
theorem dX3_exit_173 : decode cX3_exit 173 = .ok (.ireturn, 1) := by decide +kernel
theorem dX3_reap_0 : decode cX3_reap 0 = .ok (.aload_n 0, 1) := by decide +kernel
theorem dX3_reap_1 : decode cX3_reap 1 = .ok (.iload_n 1, 1) := by decide +kernel
theorem dX3_reap_2 : decode cX3_reap 2 = .ok (.invokevirtual 100, 3) := by decide +kernel
theorem dX3_reap_5 : decode cX3_reap 5 = .ok (.ifCond .ne 6, 3) := by decide +kernel
theorem dX3_reap_8 : decode cX3_reap 8 = .ok (.bipush (-2), 2) := by decide +kernel
theorem dX3_reap_10 : decode cX3_reap 10 = .ok (.ireturn, 1) := by decide +kernel
theorem dX3_reap_11 : decode cX3_reap 11 = .ok (.iconst 0, 1) := by decide +kernel
theorem dX3_reap_12 : decode cX3_reap 12 = .ok (.istore_n 2, 1) := by decide +kernel
theorem dX3_reap_13 : decode cX3_reap 13 = .ok (.iconst 0, 1) := by decide +kernel
theorem dX3_reap_14 : decode cX3_reap 14 = .ok (.istore_n 3, 1) := by decide +kernel
theorem dX3_reap_15 : decode cX3_reap 15 = .ok (.iload_n 3, 1) := by decide +kernel
theorem dX3_reap_16 : decode cX3_reap 16 = .ok (.bipush 16, 2) := by decide +kernel
theorem dX3_reap_18 : decode cX3_reap 18 = .ok (.if_icmp .ge 85, 3) := by decide +kernel
theorem dX3_reap_21 : decode cX3_reap 21 = .ok (.aload_n 0, 1) := by decide +kernel
theorem dX3_reap_22 : decode cX3_reap 22 = .ok (.getfield 26, 3) := by decide +kernel
theorem dX3_reap_25 : decode cX3_reap 25 = .ok (.iload_n 3, 1) := by decide +kernel
theorem dX3_reap_26 : decode cX3_reap 26 = .ok (.iaload, 1) := by decide +kernel
theorem dX3_reap_27 : decode cX3_reap 27 = .ok (.ifCond .eq 17, 3) := by decide +kernel
theorem dX3_reap_30 : decode cX3_reap 30 = .ok (.aload_n 0, 1) := by decide +kernel
theorem dX3_reap_31 : decode cX3_reap 31 = .ok (.getfield 32, 3) := by decide +kernel
theorem dX3_reap_34 : decode cX3_reap 34 = .ok (.iload_n 3, 1) := by decide +kernel
theorem dX3_reap_35 : decode cX3_reap 35 = .ok (.iaload, 1) := by decide +kernel
theorem dX3_reap_36 : decode cX3_reap 36 = .ok (.iload_n 1, 1) := by decide +kernel
theorem dX3_reap_37 : decode cX3_reap 37 = .ok (.if_icmp .ne 7, 3) := by decide +kernel
theorem dX3_reap_40 : decode cX3_reap 40 = .ok (.iconst 1, 1) := by decide +kernel
theorem dX3_reap_41 : decode cX3_reap 41 = .ok (.goto 4, 3) := by decide +kernel
theorem dX3_reap_44 : decode cX3_reap 44 = .ok (.iconst 0, 1) := by decide +kernel
theorem dX3_reap_45 : decode cX3_reap 45 = .ok (.istore 4, 2) := by decide +kernel
theorem dX3_reap_47 : decode cX3_reap 47 = .ok (.iload 4, 2) := by decide +kernel
theorem dX3_reap_49 : decode cX3_reap 49 = .ok (.ifCond .eq 35, 3) := by decide +kernel
theorem dX3_reap_52 : decode cX3_reap 52 = .ok (.aload_n 0, 1) := by decide +kernel
theorem dX3_reap_53 : decode cX3_reap 53 = .ok (.getfield 26, 3) := by decide +kernel
theorem dX3_reap_56 : decode cX3_reap 56 = .ok (.iload_n 3, 1) := by decide +kernel
theorem dX3_reap_57 : decode cX3_reap 57 = .ok (.iaload, 1) := by decide +kernel
theorem dX3_reap_58 : decode cX3_reap 58 = .ok (.iconst 2, 1) := by decide +kernel
theorem dX3_reap_59 : decode cX3_reap 59 = .ok (.if_icmp .ne 25, 3) := by decide +kernel
theorem dX3_reap_62 : decode cX3_reap 62 = .ok (.aload_n 0, 1) := by decide +kernel
theorem dX3_reap_63 : decode cX3_reap 63 = .ok (.iload_n 3, 1) := by decide +kernel
theorem dX3_reap_64 : decode cX3_reap 64 = .ok (.invokevirtual 128, 3) := by decide +kernel
theorem dX3_reap_67 : decode cX3_reap 67 = .ok (.sipush 256, 3) := by decide +kernel
theorem dX3_reap_70 : decode cX3_reap 70 = .ok (.iload_n 3, 1) := by decide +kernel
theorem dX3_reap_71 : decode cX3_reap 71 = .ok (.imul, 1) := by decide +kernel
theorem dX3_reap_72 : decode cX3_reap 72 = .ok (.aload_n 0, 1) := by decide +kernel
theorem dX3_reap_73 : decode cX3_reap 73 = .ok (.getfield 35, 3) := by decide +kernel
theorem dX3_reap_76 : decode cX3_reap 76 = .ok (.iload_n 3, 1) := by decide +kernel
theorem dX3_reap_77 : decode cX3_reap 77 = .ok (.iaload, 1) := by decide +kernel
theorem dX3_reap_78 : decode cX3_reap 78 = .ok (.sipush 255, 3) := by decide +kernel
theorem dX3_reap_81 : decode cX3_reap 81 = .ok (.iand, 1) := by decide +kernel
theorem dX3_reap_82 : decode cX3_reap 82 = .ok (.iadd, 1) := by decide +kernel
theorem dX3_reap_83 : decode cX3_reap 83 = .ok (.ireturn, 1) := by decide +kernel
theorem dX3_reap_84 : decode cX3_reap 84 = .ok (.iload_n 2, 1) := by decide +kernel
theorem dX3_reap_85 : decode cX3_reap 85 = .ok (.iload 4, 2) := by decide +kernel
theorem dX3_reap_87 : decode cX3_reap 87 = .ok (.ifCond .eq 7, 3) := by decide +kernel
theorem dX3_reap_90 : decode cX3_reap 90 = .ok (.iconst 1, 1) := by decide +kernel
theorem dX3_reap_91 : decode cX3_reap 91 = .ok (.goto 4, 3) := by decide +kernel
theorem dX3_reap_94 : decode cX3_reap 94 = .ok (.iconst 0, 1) := by decide +kernel
theorem dX3_reap_95 : decode cX3_reap 95 = .ok (.iadd, 1) := by decide +kernel
theorem dX3_reap_96 : decode cX3_reap 96 = .ok (.istore_n 2, 1) := by decide +kernel
theorem dX3_reap_97 : decode cX3_reap 97 = .ok (.iinc 3 1, 3) := by decide +kernel
theorem dX3_reap_100 : decode cX3_reap 100 = .ok (.goto (-85), 3) := by decide +kernel
theorem dX3_reap_103 : decode cX3_reap 103 = .ok (.iload_n 2, 1) := by decide +kernel
theorem dX3_reap_104 : decode cX3_reap 104 = .ok (.ifCond .ne 8, 3) := by decide +kernel
theorem dX3_reap_107 : decode cX3_reap 107 = .ok (.bipush (-6), 2) := by decide +kernel
theorem dX3_reap_109 : decode cX3_reap 109 = .ok (.goto 5, 3) := by decide +kernel
theorem dX3_reap_112 : decode cX3_reap 112 = .ok (.bipush (-7), 2) := by decide +kernel
theorem dX3_reap_114 : decode cX3_reap 114 = .ok (.ireturn, 1) := by decide +kernel
theorem dX3_tick_0 : decode cX3_tick 0 = .ok (.aload_n 0, 1) := by decide +kernel
theorem dX3_tick_1 : decode cX3_tick 1 = .ok (.getfield 80, 3) := by decide +kernel
theorem dX3_tick_4 : decode cX3_tick 4 = .ok (.ifCond .ne 5, 3) := by decide +kernel
theorem dX3_tick_7 : decode cX3_tick 7 = .ok (.iconst (-1), 1) := by decide +kernel
theorem dX3_tick_8 : decode cX3_tick 8 = .ok (.ireturn, 1) := by decide +kernel
theorem dX3_tick_9 : decode cX3_tick 9 = .ok (.aload_n 0, 1) := by decide +kernel
theorem dX3_tick_10 : decode cX3_tick 10 = .ok (.dup, 1) := by decide +kernel
theorem dX3_tick_11 : decode cX3_tick 11 = .ok (.getfield 131, 3) := by decide +kernel
theorem dX3_tick_14 : decode cX3_tick 14 = .ok (.iconst 1, 1) := by decide +kernel
theorem dX3_tick_15 : decode cX3_tick 15 = .ok (.iadd, 1) := by decide +kernel
theorem dX3_tick_16 : decode cX3_tick 16 = .ok (.putfield 131, 3) := by decide +kernel
theorem dX3_tick_19 : decode cX3_tick 19 = .ok (.aload_n 0, 1) := by decide +kernel
theorem dX3_tick_20 : decode cX3_tick 20 = .ok (.getfield 47, 3) := by decide +kernel
theorem dX3_tick_23 : decode cX3_tick 23 = .ok (.iconst 0, 1) := by decide +kernel
theorem dX3_tick_24 : decode cX3_tick 24 = .ok (.iaload, 1) := by decide +kernel
theorem dX3_tick_25 : decode cX3_tick 25 = .ok (.istore_n 1, 1) := by decide +kernel
theorem dX3_tick_26 : decode cX3_tick 26 = .ok (.iconst 0, 1) := by decide +kernel
theorem dX3_tick_27 : decode cX3_tick 27 = .ok (.istore_n 2, 1) := by decide +kernel
theorem dX3_tick_28 : decode cX3_tick 28 = .ok (.iload_n 2, 1) := by decide +kernel
theorem dX3_tick_29 : decode cX3_tick 29 = .ok (.iconst 1, 1) := by decide +kernel
theorem dX3_tick_30 : decode cX3_tick 30 = .ok (.iadd, 1) := by decide +kernel
theorem dX3_tick_31 : decode cX3_tick 31 = .ok (.aload_n 0, 1) := by decide +kernel
theorem dX3_tick_32 : decode cX3_tick 32 = .ok (.getfield 80, 3) := by decide +kernel
theorem dX3_tick_35 : decode cX3_tick 35 = .ok (.if_icmp .ge 23, 3) := by decide +kernel
theorem dX3_tick_38 : decode cX3_tick 38 = .ok (.aload_n 0, 1) := by decide +kernel
theorem dX3_tick_39 : decode cX3_tick 39 = .ok (.getfield 47, 3) := by decide +kernel
theorem dX3_tick_42 : decode cX3_tick 42 = .ok (.iload_n 2, 1) := by decide +kernel
theorem dX3_tick_43 : decode cX3_tick 43 = .ok (.aload_n 0, 1) := by decide +kernel
theorem dX3_tick_44 : decode cX3_tick 44 = .ok (.getfield 47, 3) := by decide +kernel
theorem dX3_tick_47 : decode cX3_tick 47 = .ok (.iload_n 2, 1) := by decide +kernel
theorem dX3_tick_48 : decode cX3_tick 48 = .ok (.iconst 1, 1) := by decide +kernel
theorem dX3_tick_49 : decode cX3_tick 49 = .ok (.iadd, 1) := by decide +kernel
theorem dX3_tick_50 : decode cX3_tick 50 = .ok (.iaload, 1) := by decide +kernel
theorem dX3_tick_51 : decode cX3_tick 51 = .ok (.iastore, 1) := by decide +kernel
theorem dX3_tick_52 : decode cX3_tick 52 = .ok (.iinc 2 1, 3) := by decide +kernel
theorem dX3_tick_55 : decode cX3_tick 55 = .ok (.goto (-27), 3) := by decide +kernel
theorem dX3_tick_58 : decode cX3_tick 58 = .ok (.aload_n 0, 1) := by decide +kernel
theorem dX3_tick_59 : decode cX3_tick 59 = .ok (.getfield 47, 3) := by decide +kernel
theorem dX3_tick_62 : decode cX3_tick 62 = .ok (.aload_n 0, 1) := by decide +kernel
theorem dX3_tick_63 : decode cX3_tick 63 = .ok (.getfield 80, 3) := by decide +kernel
theorem dX3_tick_66 : decode cX3_tick 66 = .ok (.iconst 1, 1) := by decide +kernel
theorem dX3_tick_67 : decode cX3_tick 67 = .ok (.isub, 1) := by decide +kernel
theorem dX3_tick_68 : decode cX3_tick 68 = .ok (.iload_n 1, 1) := by decide +kernel
theorem dX3_tick_69 : decode cX3_tick 69 = .ok (.iastore, 1) := by decide +kernel
theorem dX3_tick_70 : decode cX3_tick 70 = .ok (.aload_n 0, 1) := by decide +kernel
theorem dX3_tick_71 : decode cX3_tick 71 = .ok (.getfield 47, 3) := by decide +kernel
theorem dX3_tick_74 : decode cX3_tick 74 = .ok (.iconst 0, 1) := by decide +kernel
theorem dX3_tick_75 : decode cX3_tick 75 = .ok (.iaload, 1) := by decide +kernel
theorem dX3_tick_76 : decode cX3_tick 76 = .ok (.ireturn, 1) := by decide +kernel
theorem dX3_current_0 : decode cX3_current 0 = .ok (.aload_n 0, 1) := by decide +kernel
theorem dX3_current_1 : decode cX3_current 1 = .ok (.getfield 80, 3) := by decide +kernel
theorem dX3_current_4 : decode cX3_current 4 = .ok (.ifCond .ne 7, 3) := by decide +kernel
theorem dX3_current_7 : decode cX3_current 7 = .ok (.iconst (-1), 1) := by decide +kernel
theorem dX3_current_8 : decode cX3_current 8 = .ok (.goto 9, 3) := by decide +kernel
theorem dX3_current_11 : decode cX3_current 11 = .ok (.aload_n 0, 1) := by decide +kernel
theorem dX3_current_12 : decode cX3_current 12 = .ok (.getfield 47, 3) := by decide +kernel
theorem dX3_current_15 : decode cX3_current 15 = .ok (.iconst 0, 1) := by decide +kernel
theorem dX3_current_16 : decode cX3_current 16 = .ok (.iaload, 1) := by decide +kernel
theorem dX3_current_17 : decode cX3_current 17 = .ok (.ireturn, 1) := by decide +kernel
theorem dX3_block_0 : decode cX3_block 0 = .ok (.iload_n 1, 1) := by decide +kernel
theorem dX3_block_1 : decode cX3_block 1 = .ok (.ifCond .lt 9, 3) := by decide +kernel
theorem dX3_block_4 : decode cX3_block 4 = .ok (.iload_n 1, 1) := by decide +kernel
theorem dX3_block_5 : decode cX3_block 5 = .ok (.bipush 8, 2) := by decide +kernel
theorem dX3_block_7 : decode cX3_block 7 = .ok (.if_icmp .lt 6, 3) := by decide +kernel
theorem dX3_block_10 : decode cX3_block 10 = .ok (.bipush (-2), 2) := by decide +kernel
theorem dX3_block_12 : decode cX3_block 12 = .ok (.ireturn, 1) := by decide +kernel
theorem dX3_block_13 : decode cX3_block 13 = .ok (.aload_n 0, 1) := by decide +kernel
theorem dX3_block_14 : decode cX3_block 14 = .ok (.invokevirtual 87, 3) := by decide +kernel
theorem dX3_block_17 : decode cX3_block 17 = .ok (.aload_n 0, 1) := by decide +kernel
theorem dX3_block_18 : decode cX3_block 18 = .ok (.iload_n 1, 1) := by decide +kernel
theorem dX3_block_19 : decode cX3_block 19 = .ok (.invokevirtual 59, 3) := by decide +kernel
theorem dX3_block_22 : decode cX3_block 22 = .ok (.istore_n 2, 1) := by decide +kernel
theorem dX3_block_23 : decode cX3_block 23 = .ok (.iload_n 2, 1) := by decide +kernel
theorem dX3_block_24 : decode cX3_block 24 = .ok (.ifCond .ge 8, 3) := by decide +kernel
theorem dX3_block_27 : decode cX3_block 27 = .ok (.aload_n 0, 1) := by decide +kernel
theorem dX3_block_28 : decode cX3_block 28 = .ok (.invokevirtual 93, 3) := by decide +kernel
theorem dX3_block_31 : decode cX3_block 31 = .ok (.ireturn, 1) := by decide +kernel
theorem dX3_block_32 : decode cX3_block 32 = .ok (.aload_n 0, 1) := by decide +kernel
theorem dX3_block_33 : decode cX3_block 33 = .ok (.getfield 23, 3) := by decide +kernel
theorem dX3_block_36 : decode cX3_block 36 = .ok (.iload_n 2, 1) := by decide +kernel
theorem dX3_block_37 : decode cX3_block 37 = .ok (.iload_n 1, 1) := by decide +kernel
theorem dX3_block_38 : decode cX3_block 38 = .ok (.iastore, 1) := by decide +kernel
theorem dX3_block_39 : decode cX3_block 39 = .ok (.iload_n 2, 1) := by decide +kernel
theorem dX3_block_40 : decode cX3_block 40 = .ok (.istore_n 3, 1) := by decide +kernel
theorem dX3_block_41 : decode cX3_block 41 = .ok (.iload_n 3, 1) := by decide +kernel
theorem dX3_block_42 : decode cX3_block 42 = .ok (.iload_n 2, 1) := by decide +kernel
theorem dX3_block_43 : decode cX3_block 43 = .ok (.iconst 1, 1) := by decide +kernel
theorem dX3_block_44 : decode cX3_block 44 = .ok (.iload_n 1, 1) := by decide +kernel
theorem dX3_block_45 : decode cX3_block 45 = .ok (.ishl, 1) := by decide +kernel
theorem dX3_block_46 : decode cX3_block 46 = .ok (.iadd, 1) := by decide +kernel
theorem dX3_block_47 : decode cX3_block 47 = .ok (.if_icmp .ge 16, 3) := by decide +kernel
theorem dX3_block_50 : decode cX3_block 50 = .ok (.aload_n 0, 1) := by decide +kernel
theorem dX3_block_51 : decode cX3_block 51 = .ok (.getfield 13, 3) := by decide +kernel
theorem dX3_block_54 : decode cX3_block 54 = .ok (.iload_n 3, 1) := by decide +kernel
theorem dX3_block_55 : decode cX3_block 55 = .ok (.iconst 4, 1) := by decide +kernel
theorem dX3_block_56 : decode cX3_block 56 = .ok (.iastore, 1) := by decide +kernel
theorem dX3_block_57 : decode cX3_block 57 = .ok (.iinc 3 1, 3) := by decide +kernel
theorem dX3_block_60 : decode cX3_block 60 = .ok (.goto (-19), 3) := by decide +kernel
theorem dX3_block_63 : decode cX3_block 63 = .ok (.iload_n 2, 1) := by decide +kernel
theorem dX3_block_64 : decode cX3_block 64 = .ok (.ireturn, 1) := by decide +kernel
theorem dX3_unblock_0 : decode cX3_unblock 0 = .ok (.iload_n 1, 1) := by decide +kernel
theorem dX3_unblock_1 : decode cX3_unblock 1 = .ok (.ifCond .lt 19, 3) := by decide +kernel
theorem dX3_unblock_4 : decode cX3_unblock 4 = .ok (.iload_n 1, 1) := by decide +kernel
theorem dX3_unblock_5 : decode cX3_unblock 5 = .ok (.sipush 128, 3) := by decide +kernel
theorem dX3_unblock_8 : decode cX3_unblock 8 = .ok (.if_icmp .ge 12, 3) := by decide +kernel
theorem dX3_unblock_11 : decode cX3_unblock 11 = .ok (.aload_n 0, 1) := by decide +kernel
theorem dX3_unblock_12 : decode cX3_unblock 12 = .ok (.getfield 23, 3) := by decide +kernel
theorem dX3_unblock_15 : decode cX3_unblock 15 = .ok (.iload_n 1, 1) := by decide +kernel
theorem dX3_unblock_16 : decode cX3_unblock 16 = .ok (.iaload, 1) := by decide +kernel
theorem dX3_unblock_17 : decode cX3_unblock 17 = .ok (.ifCond .ge 6, 3) := by decide +kernel
theorem dX3_unblock_20 : decode cX3_unblock 20 = .ok (.bipush (-2), 2) := by decide +kernel
theorem dX3_unblock_22 : decode cX3_unblock 22 = .ok (.ireturn, 1) := by decide +kernel
theorem dX3_unblock_23 : decode cX3_unblock 23 = .ok (.aload_n 0, 1) := by decide +kernel
theorem dX3_unblock_24 : decode cX3_unblock 24 = .ok (.getfield 23, 3) := by decide +kernel
theorem dX3_unblock_27 : decode cX3_unblock 27 = .ok (.iload_n 1, 1) := by decide +kernel
theorem dX3_unblock_28 : decode cX3_unblock 28 = .ok (.iaload, 1) := by decide +kernel
theorem dX3_unblock_29 : decode cX3_unblock 29 = .ok (.istore_n 2, 1) := by decide +kernel
theorem dX3_unblock_30 : decode cX3_unblock 30 = .ok (.aload_n 0, 1) := by decide +kernel
theorem dX3_unblock_31 : decode cX3_unblock 31 = .ok (.getfield 23, 3) := by decide +kernel
theorem dX3_unblock_34 : decode cX3_unblock 34 = .ok (.iload_n 1, 1) := by decide +kernel
theorem dX3_unblock_35 : decode cX3_unblock 35 = .ok (.iconst (-1), 1) := by decide +kernel
theorem dX3_unblock_36 : decode cX3_unblock 36 = .ok (.iastore, 1) := by decide +kernel
theorem dX3_unblock_37 : decode cX3_unblock 37 = .ok (.aload_n 0, 1) := by decide +kernel
theorem dX3_unblock_38 : decode cX3_unblock 38 = .ok (.iload_n 1, 1) := by decide +kernel
theorem dX3_unblock_39 : decode cX3_unblock 39 = .ok (.iload_n 2, 1) := by decide +kernel
theorem dX3_unblock_40 : decode cX3_unblock 40 = .ok (.invokevirtual 76, 3) := by decide +kernel
theorem dX3_unblock_43 : decode cX3_unblock 43 = .ok (.iload_n 2, 1) := by decide +kernel
theorem dX3_unblock_44 : decode cX3_unblock 44 = .ok (.ireturn, 1) := by decide +kernel
theorem dX3_freeFrames_0 : decode cX3_freeFrames 0 = .ok (.iconst 0, 1) := by decide +kernel
theorem dX3_freeFrames_1 : decode cX3_freeFrames 1 = .ok (.istore_n 1, 1) := by decide +kernel
theorem dX3_freeFrames_2 : decode cX3_freeFrames 2 = .ok (.iconst 0, 1) := by decide +kernel
theorem dX3_freeFrames_3 : decode cX3_freeFrames 3 = .ok (.istore_n 2, 1) := by decide +kernel
theorem dX3_freeFrames_4 : decode cX3_freeFrames 4 = .ok (.iload_n 2, 1) := by decide +kernel
theorem dX3_freeFrames_5 : decode cX3_freeFrames 5 = .ok (.sipush 128, 3) := by decide +kernel
theorem dX3_freeFrames_8 : decode cX3_freeFrames 8 = .ok (.if_icmp .ge 26, 3) := by decide +kernel
theorem dX3_freeFrames_11 : decode cX3_freeFrames 11 = .ok (.iload_n 1, 1) := by decide +kernel
theorem dX3_freeFrames_12 : decode cX3_freeFrames 12 = .ok (.aload_n 0, 1) := by decide +kernel
theorem dX3_freeFrames_13 : decode cX3_freeFrames 13 = .ok (.getfield 13, 3) := by decide +kernel
theorem dX3_freeFrames_16 : decode cX3_freeFrames 16 = .ok (.iload_n 2, 1) := by decide +kernel
theorem dX3_freeFrames_17 : decode cX3_freeFrames 17 = .ok (.iaload, 1) := by decide +kernel
theorem dX3_freeFrames_18 : decode cX3_freeFrames 18 = .ok (.ifCond .ne 7, 3) := by decide +kernel
theorem dX3_freeFrames_21 : decode cX3_freeFrames 21 = .ok (.iconst 1, 1) := by decide +kernel
theorem dX3_freeFrames_22 : decode cX3_freeFrames 22 = .ok (.goto 4, 3) := by decide +kernel
theorem dX3_freeFrames_25 : decode cX3_freeFrames 25 = .ok (.iconst 0, 1) := by decide +kernel
theorem dX3_freeFrames_26 : decode cX3_freeFrames 26 = .ok (.iadd, 1) := by decide +kernel
theorem dX3_freeFrames_27 : decode cX3_freeFrames 27 = .ok (.istore_n 1, 1) := by decide +kernel
theorem dX3_freeFrames_28 : decode cX3_freeFrames 28 = .ok (.iinc 2 1, 3) := by decide +kernel
theorem dX3_freeFrames_31 : decode cX3_freeFrames 31 = .ok (.goto (-27), 3) := by decide +kernel
theorem dX3_freeFrames_34 : decode cX3_freeFrames 34 = .ok (.iload_n 1, 1) := by decide +kernel
theorem dX3_freeFrames_35 : decode cX3_freeFrames 35 = .ok (.ireturn, 1) := by decide +kernel
theorem dX3_free_0 : decode cX3_free 0 = .ok (.iload_n 1, 1) := by decide +kernel
theorem dX3_free_1 : decode cX3_free 1 = .ok (.ifCond .lt 18, 3) := by decide +kernel
theorem dX3_free_4 : decode cX3_free 4 = .ok (.iload_n 1, 1) := by decide +kernel
theorem dX3_free_5 : decode cX3_free 5 = .ok (.bipush 8, 2) := by decide +kernel
theorem dX3_free_7 : decode cX3_free 7 = .ok (.if_icmp .ge 12, 3) := by decide +kernel
theorem dX3_free_10 : decode cX3_free 10 = .ok (.iload_n 2, 1) := by decide +kernel
theorem dX3_free_11 : decode cX3_free 11 = .ok (.ifCond .lt 8, 3) := by decide +kernel
theorem dX3_free_14 : decode cX3_free 14 = .ok (.iload_n 2, 1) := by decide +kernel
theorem dX3_free_15 : decode cX3_free 15 = .ok (.iconst 1, 1) := by decide +kernel
theorem dX3_free_16 : decode cX3_free 16 = .ok (.if_icmp .le 6, 3) := by decide +kernel
theorem dX3_free_19 : decode cX3_free 19 = .ok (.bipush (-2), 2) := by decide +kernel
theorem dX3_free_21 : decode cX3_free 21 = .ok (.ireturn, 1) := by decide +kernel
theorem dX3_free_22 : decode cX3_free 22 = .ok (.iconst 0, 1) := by decide +kernel
theorem dX3_free_23 : decode cX3_free 23 = .ok (.istore_n 3, 1) := by decide +kernel
theorem dX3_free_24 : decode cX3_free 24 = .ok (.iconst (-1), 1) := by decide +kernel
theorem dX3_free_25 : decode cX3_free 25 = .ok (.istore 4, 2) := by decide +kernel
theorem dX3_free_27 : decode cX3_free 27 = .ok (.iconst 0, 1) := by decide +kernel
theorem dX3_free_28 : decode cX3_free 28 = .ok (.istore 5, 2) := by decide +kernel
theorem dX3_free_30 : decode cX3_free 30 = .ok (.iload 5, 2) := by decide +kernel
theorem dX3_free_32 : decode cX3_free 32 = .ok (.sipush 128, 3) := by decide +kernel
theorem dX3_free_35 : decode cX3_free 35 = .ok (.if_icmp .ge 42, 3) := by decide +kernel
theorem dX3_free_38 : decode cX3_free 38 = .ok (.aload_n 0, 1) := by decide +kernel
theorem dX3_free_39 : decode cX3_free 39 = .ok (.getfield 7, 3) := by decide +kernel
theorem dX3_free_42 : decode cX3_free 42 = .ok (.sipush 128, 3) := by decide +kernel
theorem dX3_free_45 : decode cX3_free 45 = .ok (.iload_n 1, 1) := by decide +kernel
theorem dX3_free_46 : decode cX3_free 46 = .ok (.imul, 1) := by decide +kernel
theorem dX3_free_47 : decode cX3_free 47 = .ok (.iload 5, 2) := by decide +kernel
theorem dX3_free_49 : decode cX3_free 49 = .ok (.iadd, 1) := by decide +kernel
theorem dX3_free_50 : decode cX3_free 50 = .ok (.baload, 1) := by decide +kernel
theorem dX3_free_51 : decode cX3_free 51 = .ok (.ifCond .eq 20, 3) := by decide +kernel
theorem dX3_free_54 : decode cX3_free 54 = .ok (.iinc 3 1, 3) := by decide +kernel
theorem dX3_free_57 : decode cX3_free 57 = .ok (.iload 4, 2) := by decide +kernel
theorem dX3_free_59 : decode cX3_free 59 = .ok (.ifCond .ge 8, 3) := by decide +kernel
theorem dX3_free_62 : decode cX3_free 62 = .ok (.iload 5, 2) := by decide +kernel
theorem dX3_free_64 : decode cX3_free 64 = .ok (.goto 5, 3) := by decide +kernel
theorem dX3_free_67 : decode cX3_free 67 = .ok (.iload 4, 2) := by decide +kernel
theorem dX3_free_69 : decode cX3_free 69 = .ok (.istore 4, 2) := by decide +kernel
theorem dX3_free_71 : decode cX3_free 71 = .ok (.iinc 5 1, 3) := by decide +kernel
theorem dX3_free_74 : decode cX3_free 74 = .ok (.goto (-44), 3) := by decide +kernel
theorem dX3_free_77 : decode cX3_free 77 = .ok (.iload_n 2, 1) := by decide +kernel
theorem dX3_free_78 : decode cX3_free 78 = .ok (.ifCond .ne 7, 3) := by decide +kernel
theorem dX3_free_81 : decode cX3_free 81 = .ok (.iload_n 3, 1) := by decide +kernel
theorem dX3_free_82 : decode cX3_free 82 = .ok (.goto 5, 3) := by decide +kernel
theorem dX3_free_85 : decode cX3_free 85 = .ok (.iload 4, 2) := by decide +kernel
theorem dX3_free_87 : decode cX3_free 87 = .ok (.ireturn, 1) := by decide +kernel
theorem dX3_frame_0 : decode cX3_frame 0 = .ok (.aload_n 0, 1) := by decide +kernel
theorem dX3_frame_1 : decode cX3_frame 1 = .ok (.iload_n 1, 1) := by decide +kernel
theorem dX3_frame_2 : decode cX3_frame 2 = .ok (.invokevirtual 100, 3) := by decide +kernel
theorem dX3_frame_5 : decode cX3_frame 5 = .ok (.ifCond .eq 32, 3) := by decide +kernel
theorem dX3_frame_8 : decode cX3_frame 8 = .ok (.iload_n 2, 1) := by decide +kernel
theorem dX3_frame_9 : decode cX3_frame 9 = .ok (.ifCond .lt 28, 3) := by decide +kernel
theorem dX3_frame_12 : decode cX3_frame 12 = .ok (.iload_n 2, 1) := by decide +kernel
theorem dX3_frame_13 : decode cX3_frame 13 = .ok (.aload_n 0, 1) := by decide +kernel
theorem dX3_frame_14 : decode cX3_frame 14 = .ok (.getfield 29, 3) := by decide +kernel
theorem dX3_frame_17 : decode cX3_frame 17 = .ok (.iload_n 1, 1) := by decide +kernel
theorem dX3_frame_18 : decode cX3_frame 18 = .ok (.iaload, 1) := by decide +kernel
theorem dX3_frame_19 : decode cX3_frame 19 = .ok (.if_icmp .ge 18, 3) := by decide +kernel
theorem dX3_frame_22 : decode cX3_frame 22 = .ok (.aload_n 0, 1) := by decide +kernel
theorem dX3_frame_23 : decode cX3_frame 23 = .ok (.getfield 41, 3) := by decide +kernel
theorem dX3_frame_26 : decode cX3_frame 26 = .ok (.sipush 256, 3) := by decide +kernel
theorem dX3_frame_29 : decode cX3_frame 29 = .ok (.iload_n 1, 1) := by decide +kernel
theorem dX3_frame_30 : decode cX3_frame 30 = .ok (.imul, 1) := by decide +kernel
theorem dX3_frame_31 : decode cX3_frame 31 = .ok (.iload_n 2, 1) := by decide +kernel
theorem dX3_frame_32 : decode cX3_frame 32 = .ok (.iadd, 1) := by decide +kernel
theorem dX3_frame_33 : decode cX3_frame 33 = .ok (.iaload, 1) := by decide +kernel
theorem dX3_frame_34 : decode cX3_frame 34 = .ok (.goto 4, 3) := by decide +kernel
theorem dX3_frame_37 : decode cX3_frame 37 = .ok (.iconst (-1), 1) := by decide +kernel
theorem dX3_frame_38 : decode cX3_frame 38 = .ok (.ireturn, 1) := by decide +kernel
theorem dX3_about_0 : decode cX3_about 0 = .ok (.iload_n 1, 1) := by decide +kernel
theorem dX3_about_1 : decode cX3_about 1 = .ok (.ifCond .lt 19, 3) := by decide +kernel
theorem dX3_about_4 : decode cX3_about 4 = .ok (.iload_n 1, 1) := by decide +kernel
theorem dX3_about_5 : decode cX3_about 5 = .ok (.sipush 128, 3) := by decide +kernel
theorem dX3_about_8 : decode cX3_about 8 = .ok (.if_icmp .ge 12, 3) := by decide +kernel
theorem dX3_about_11 : decode cX3_about 11 = .ok (.iload_n 2, 1) := by decide +kernel
theorem dX3_about_12 : decode cX3_about 12 = .ok (.ifCond .lt 8, 3) := by decide +kernel
theorem dX3_about_15 : decode cX3_about 15 = .ok (.iload_n 2, 1) := by decide +kernel
theorem dX3_about_16 : decode cX3_about 16 = .ok (.iconst 1, 1) := by decide +kernel
theorem dX3_about_17 : decode cX3_about 17 = .ok (.if_icmp .le 6, 3) := by decide +kernel
theorem dX3_about_20 : decode cX3_about 20 = .ok (.bipush (-2), 2) := by decide +kernel
theorem dX3_about_22 : decode cX3_about 22 = .ok (.ireturn, 1) := by decide +kernel
theorem dX3_about_23 : decode cX3_about 23 = .ok (.iload_n 2, 1) := by decide +kernel
theorem dX3_about_24 : decode cX3_about 24 = .ok (.ifCond .ne 10, 3) := by decide +kernel
theorem dX3_about_27 : decode cX3_about 27 = .ok (.aload_n 0, 1) := by decide +kernel
theorem dX3_about_28 : decode cX3_about 28 = .ok (.getfield 13, 3) := by decide +kernel
theorem dX3_about_31 : decode cX3_about 31 = .ok (.iload_n 1, 1) := by decide +kernel
theorem dX3_about_32 : decode cX3_about 32 = .ok (.iaload, 1) := by decide +kernel
theorem dX3_about_33 : decode cX3_about 33 = .ok (.ireturn, 1) := by decide +kernel
theorem dX3_about_34 : decode cX3_about 34 = .ok (.aload_n 0, 1) := by decide +kernel
theorem dX3_about_35 : decode cX3_about 35 = .ok (.getfield 13, 3) := by decide +kernel
theorem dX3_about_38 : decode cX3_about 38 = .ok (.iload_n 1, 1) := by decide +kernel
theorem dX3_about_39 : decode cX3_about 39 = .ok (.iaload, 1) := by decide +kernel
theorem dX3_about_40 : decode cX3_about 40 = .ok (.iconst 1, 1) := by decide +kernel
theorem dX3_about_41 : decode cX3_about 41 = .ok (.if_icmp .eq 13, 3) := by decide +kernel
theorem dX3_about_44 : decode cX3_about 44 = .ok (.aload_n 0, 1) := by decide +kernel
theorem dX3_about_45 : decode cX3_about 45 = .ok (.getfield 13, 3) := by decide +kernel
theorem dX3_about_48 : decode cX3_about 48 = .ok (.iload_n 1, 1) := by decide +kernel
theorem dX3_about_49 : decode cX3_about 49 = .ok (.iaload, 1) := by decide +kernel
theorem dX3_about_50 : decode cX3_about 50 = .ok (.iconst 2, 1) := by decide +kernel
theorem dX3_about_51 : decode cX3_about 51 = .ok (.if_icmp .ne 11, 3) := by decide +kernel
theorem dX3_about_54 : decode cX3_about 54 = .ok (.aload_n 0, 1) := by decide +kernel
theorem dX3_about_55 : decode cX3_about 55 = .ok (.iload_n 1, 1) := by decide +kernel
theorem dX3_about_56 : decode cX3_about 56 = .ok (.invokevirtual 73, 3) := by decide +kernel
theorem dX3_about_59 : decode cX3_about 59 = .ok (.goto 22, 3) := by decide +kernel
theorem dX3_about_62 : decode cX3_about 62 = .ok (.aload_n 0, 1) := by decide +kernel
theorem dX3_about_63 : decode cX3_about 63 = .ok (.getfield 13, 3) := by decide +kernel
theorem dX3_about_66 : decode cX3_about 66 = .ok (.iload_n 1, 1) := by decide +kernel
theorem dX3_about_67 : decode cX3_about 67 = .ok (.iaload, 1) := by decide +kernel
theorem dX3_about_68 : decode cX3_about 68 = .ok (.iconst 3, 1) := by decide +kernel
theorem dX3_about_69 : decode cX3_about 69 = .ok (.if_icmp .ne 11, 3) := by decide +kernel
theorem dX3_about_72 : decode cX3_about 72 = .ok (.aload_n 0, 1) := by decide +kernel
theorem dX3_about_73 : decode cX3_about 73 = .ok (.iload_n 1, 1) := by decide +kernel
theorem dX3_about_74 : decode cX3_about 74 = .ok (.invokevirtual 104, 3) := by decide +kernel
theorem dX3_about_77 : decode cX3_about 77 = .ok (.goto 4, 3) := by decide +kernel
theorem dX3_about_80 : decode cX3_about 80 = .ok (.iconst 0, 1) := by decide +kernel
theorem dX3_about_81 : decode cX3_about 81 = .ok (.ireturn, 1) := by decide +kernel
theorem dX3_process_0 : decode cX3_process 0 = .ok (.iload_n 1, 1) := by decide +kernel
theorem dX3_process_1 : decode cX3_process 1 = .ok (.ifCond .lt 18, 3) := by decide +kernel
theorem dX3_process_4 : decode cX3_process 4 = .ok (.iload_n 1, 1) := by decide +kernel
theorem dX3_process_5 : decode cX3_process 5 = .ok (.bipush 16, 2) := by decide +kernel
theorem dX3_process_7 : decode cX3_process 7 = .ok (.if_icmp .ge 12, 3) := by decide +kernel
theorem dX3_process_10 : decode cX3_process 10 = .ok (.iload_n 2, 1) := by decide +kernel
theorem dX3_process_11 : decode cX3_process 11 = .ok (.ifCond .lt 8, 3) := by decide +kernel
theorem dX3_process_14 : decode cX3_process 14 = .ok (.iload_n 2, 1) := by decide +kernel
theorem dX3_process_15 : decode cX3_process 15 = .ok (.iconst 4, 1) := by decide +kernel
theorem dX3_process_16 : decode cX3_process 16 = .ok (.if_icmp .le 6, 3) := by decide +kernel
theorem dX3_process_19 : decode cX3_process 19 = .ok (.bipush (-2), 2) := by decide +kernel
theorem dX3_process_21 : decode cX3_process 21 = .ok (.ireturn, 1) := by decide +kernel
theorem dX3_process_22 : decode cX3_process 22 = .ok (.iconst 0, 1) := by decide +kernel
theorem dX3_process_23 : decode cX3_process 23 = .ok (.istore_n 3, 1) := by decide +kernel
theorem dX3_process_24 : decode cX3_process 24 = .ok (.iconst 0, 1) := by decide +kernel
theorem dX3_process_25 : decode cX3_process 25 = .ok (.istore 4, 2) := by decide +kernel
theorem dX3_process_27 : decode cX3_process 27 = .ok (.iload 4, 2) := by decide +kernel
theorem dX3_process_29 : decode cX3_process 29 = .ok (.bipush 16, 2) := by decide +kernel
theorem dX3_process_31 : decode cX3_process 31 = .ok (.if_icmp .ge 38, 3) := by decide +kernel
theorem dX3_process_34 : decode cX3_process 34 = .ok (.iload_n 3, 1) := by decide +kernel
theorem dX3_process_35 : decode cX3_process 35 = .ok (.aload_n 0, 1) := by decide +kernel
theorem dX3_process_36 : decode cX3_process 36 = .ok (.getfield 26, 3) := by decide +kernel
theorem dX3_process_39 : decode cX3_process 39 = .ok (.iload 4, 2) := by decide +kernel
theorem dX3_process_41 : decode cX3_process 41 = .ok (.iaload, 1) := by decide +kernel
theorem dX3_process_42 : decode cX3_process 42 = .ok (.ifCond .eq 18, 3) := by decide +kernel
theorem dX3_process_45 : decode cX3_process 45 = .ok (.aload_n 0, 1) := by decide +kernel
theorem dX3_process_46 : decode cX3_process 46 = .ok (.getfield 32, 3) := by decide +kernel
theorem dX3_process_49 : decode cX3_process 49 = .ok (.iload 4, 2) := by decide +kernel
theorem dX3_process_51 : decode cX3_process 51 = .ok (.iaload, 1) := by decide +kernel
theorem dX3_process_52 : decode cX3_process 52 = .ok (.iload_n 1, 1) := by decide +kernel
theorem dX3_process_53 : decode cX3_process 53 = .ok (.if_icmp .ne 7, 3) := by decide +kernel
theorem dX3_process_56 : decode cX3_process 56 = .ok (.iconst 1, 1) := by decide +kernel
theorem dX3_process_57 : decode cX3_process 57 = .ok (.goto 4, 3) := by decide +kernel
theorem dX3_process_60 : decode cX3_process 60 = .ok (.iconst 0, 1) := by decide +kernel
theorem dX3_process_61 : decode cX3_process 61 = .ok (.iadd, 1) := by decide +kernel
theorem dX3_process_62 : decode cX3_process 62 = .ok (.istore_n 3, 1) := by decide +kernel
theorem dX3_process_63 : decode cX3_process 63 = .ok (.iinc 4 1, 3) := by decide +kernel
theorem dX3_process_66 : decode cX3_process 66 = .ok (.goto (-39), 3) := by decide +kernel
theorem dX3_process_69 : decode cX3_process 69 = .ok (.iload_n 2, 1) := by decide +kernel
theorem dX3_process_70 : decode cX3_process 70 = .ok (.tableswitch 80 0 3 #[30, 37, 58, 78], 30) := by decide +kernel
theorem dX3_process_100 : decode cX3_process 100 = .ok (.aload_n 0, 1) := by decide +kernel
theorem dX3_process_101 : decode cX3_process 101 = .ok (.getfield 26, 3) := by decide +kernel
theorem dX3_process_104 : decode cX3_process 104 = .ok (.iload_n 1, 1) := by decide +kernel
theorem dX3_process_105 : decode cX3_process 105 = .ok (.iaload, 1) := by decide +kernel
theorem dX3_process_106 : decode cX3_process 106 = .ok (.ireturn, 1) := by decide +kernel
theorem dX3_process_107 : decode cX3_process 107 = .ok (.aload_n 0, 1) := by decide +kernel
theorem dX3_process_108 : decode cX3_process 108 = .ok (.getfield 26, 3) := by decide +kernel
theorem dX3_process_111 : decode cX3_process 111 = .ok (.iload_n 1, 1) := by decide +kernel
theorem dX3_process_112 : decode cX3_process 112 = .ok (.iaload, 1) := by decide +kernel
theorem dX3_process_113 : decode cX3_process 113 = .ok (.iconst 1, 1) := by decide +kernel
theorem dX3_process_114 : decode cX3_process 114 = .ok (.if_icmp .ne 12, 3) := by decide +kernel
theorem dX3_process_117 : decode cX3_process 117 = .ok (.aload_n 0, 1) := by decide +kernel
theorem dX3_process_118 : decode cX3_process 118 = .ok (.getfield 29, 3) := by decide +kernel
theorem dX3_process_121 : decode cX3_process 121 = .ok (.iload_n 1, 1) := by decide +kernel
theorem dX3_process_122 : decode cX3_process 122 = .ok (.iaload, 1) := by decide +kernel
theorem dX3_process_123 : decode cX3_process 123 = .ok (.goto 4, 3) := by decide +kernel
theorem dX3_process_126 : decode cX3_process 126 = .ok (.iconst 0, 1) := by decide +kernel
theorem dX3_process_127 : decode cX3_process 127 = .ok (.ireturn, 1) := by decide +kernel
theorem dX3_process_128 : decode cX3_process 128 = .ok (.aload_n 0, 1) := by decide +kernel
theorem dX3_process_129 : decode cX3_process 129 = .ok (.getfield 26, 3) := by decide +kernel
theorem dX3_process_132 : decode cX3_process 132 = .ok (.iload_n 1, 1) := by decide +kernel
theorem dX3_process_133 : decode cX3_process 133 = .ok (.iaload, 1) := by decide +kernel
theorem dX3_process_134 : decode cX3_process 134 = .ok (.ifCond .ne 7, 3) := by decide +kernel
theorem dX3_process_137 : decode cX3_process 137 = .ok (.iconst (-1), 1) := by decide +kernel
theorem dX3_process_138 : decode cX3_process 138 = .ok (.goto 9, 3) := by decide +kernel
theorem dX3_process_141 : decode cX3_process 141 = .ok (.aload_n 0, 1) := by decide +kernel
theorem dX3_process_142 : decode cX3_process 142 = .ok (.getfield 32, 3) := by decide +kernel
theorem dX3_process_145 : decode cX3_process 145 = .ok (.iload_n 1, 1) := by decide +kernel
theorem dX3_process_146 : decode cX3_process 146 = .ok (.iaload, 1) := by decide +kernel
theorem dX3_process_147 : decode cX3_process 147 = .ok (.ireturn, 1) := by decide +kernel
theorem dX3_process_148 : decode cX3_process 148 = .ok (.iload_n 3, 1) := by decide +kernel
theorem dX3_process_149 : decode cX3_process 149 = .ok (.ireturn, 1) := by decide +kernel
theorem dX3_process_150 : decode cX3_process 150 = .ok (.aload_n 0, 1) := by decide +kernel
theorem dX3_process_151 : decode cX3_process 151 = .ok (.iload_n 1, 1) := by decide +kernel
theorem dX3_process_152 : decode cX3_process 152 = .ok (.invokevirtual 125, 3) := by decide +kernel
theorem dX3_process_155 : decode cX3_process 155 = .ok (.ireturn, 1) := by decide +kernel
theorem dX3_told_0 : decode cX3_told 0 = .ok (.iload_n 1, 1) := by decide +kernel
theorem dX3_told_1 : decode cX3_told 1 = .ok (.ifCond .lt 8, 3) := by decide +kernel
theorem dX3_told_4 : decode cX3_told 4 = .ok (.iload_n 1, 1) := by decide +kernel
theorem dX3_told_5 : decode cX3_told 5 = .ok (.iconst 4, 1) := by decide +kernel
theorem dX3_told_6 : decode cX3_told 6 = .ok (.if_icmp .le 6, 3) := by decide +kernel
theorem dX3_told_9 : decode cX3_told 9 = .ok (.bipush (-2), 2) := by decide +kernel
theorem dX3_told_11 : decode cX3_told 11 = .ok (.ireturn, 1) := by decide +kernel
theorem dX3_told_12 : decode cX3_told 12 = .ok (.iconst 0, 1) := by decide +kernel
theorem dX3_told_13 : decode cX3_told 13 = .ok (.istore_n 2, 1) := by decide +kernel
theorem dX3_told_14 : decode cX3_told 14 = .ok (.iconst 0, 1) := by decide +kernel
theorem dX3_told_15 : decode cX3_told 15 = .ok (.istore_n 3, 1) := by decide +kernel
theorem dX3_told_16 : decode cX3_told 16 = .ok (.iconst 0, 1) := by decide +kernel
theorem dX3_told_17 : decode cX3_told 17 = .ok (.istore 4, 2) := by decide +kernel
theorem dX3_told_19 : decode cX3_told 19 = .ok (.iload 4, 2) := by decide +kernel
theorem dX3_told_21 : decode cX3_told 21 = .ok (.bipush 16, 2) := by decide +kernel
theorem dX3_told_23 : decode cX3_told 23 = .ok (.if_icmp .ge 47, 3) := by decide +kernel
theorem dX3_told_26 : decode cX3_told 26 = .ok (.iload_n 2, 1) := by decide +kernel
theorem dX3_told_27 : decode cX3_told 27 = .ok (.aload_n 0, 1) := by decide +kernel
theorem dX3_told_28 : decode cX3_told 28 = .ok (.getfield 26, 3) := by decide +kernel
theorem dX3_told_31 : decode cX3_told 31 = .ok (.iload 4, 2) := by decide +kernel
theorem dX3_told_33 : decode cX3_told 33 = .ok (.iaload, 1) := by decide +kernel
theorem dX3_told_34 : decode cX3_told 34 = .ok (.iconst 1, 1) := by decide +kernel
theorem dX3_told_35 : decode cX3_told 35 = .ok (.if_icmp .ne 7, 3) := by decide +kernel
theorem dX3_told_38 : decode cX3_told 38 = .ok (.iconst 1, 1) := by decide +kernel
theorem dX3_told_39 : decode cX3_told 39 = .ok (.goto 4, 3) := by decide +kernel
theorem dX3_told_42 : decode cX3_told 42 = .ok (.iconst 0, 1) := by decide +kernel
theorem dX3_told_43 : decode cX3_told 43 = .ok (.iadd, 1) := by decide +kernel
theorem dX3_told_44 : decode cX3_told 44 = .ok (.istore_n 2, 1) := by decide +kernel
theorem dX3_told_45 : decode cX3_told 45 = .ok (.iload_n 3, 1) := by decide +kernel
theorem dX3_told_46 : decode cX3_told 46 = .ok (.aload_n 0, 1) := by decide +kernel
theorem dX3_told_47 : decode cX3_told 47 = .ok (.getfield 26, 3) := by decide +kernel
theorem dX3_told_50 : decode cX3_told 50 = .ok (.iload 4, 2) := by decide +kernel
theorem dX3_told_52 : decode cX3_told 52 = .ok (.iaload, 1) := by decide +kernel
theorem dX3_told_53 : decode cX3_told 53 = .ok (.iconst 2, 1) := by decide +kernel
theorem dX3_told_54 : decode cX3_told 54 = .ok (.if_icmp .ne 7, 3) := by decide +kernel
theorem dX3_told_57 : decode cX3_told 57 = .ok (.iconst 1, 1) := by decide +kernel
theorem dX3_told_58 : decode cX3_told 58 = .ok (.goto 4, 3) := by decide +kernel
theorem dX3_told_61 : decode cX3_told 61 = .ok (.iconst 0, 1) := by decide +kernel
theorem dX3_told_62 : decode cX3_told 62 = .ok (.iadd, 1) := by decide +kernel
theorem dX3_told_63 : decode cX3_told 63 = .ok (.istore_n 3, 1) := by decide +kernel
theorem dX3_told_64 : decode cX3_told 64 = .ok (.iinc 4 1, 3) := by decide +kernel
theorem dX3_told_67 : decode cX3_told 67 = .ok (.goto (-48), 3) := by decide +kernel
theorem dX3_told_70 : decode cX3_told 70 = .ok (.iload_n 1, 1) := by decide +kernel
theorem dX3_told_71 : decode cX3_told 71 = .ok (.ifCond .ne 7, 3) := by decide +kernel
theorem dX3_told_74 : decode cX3_told 74 = .ok (.iload_n 2, 1) := by decide +kernel
theorem dX3_told_75 : decode cX3_told 75 = .ok (.goto 40, 3) := by decide +kernel
theorem dX3_told_78 : decode cX3_told 78 = .ok (.iload_n 1, 1) := by decide +kernel
theorem dX3_told_79 : decode cX3_told 79 = .ok (.iconst 1, 1) := by decide +kernel
theorem dX3_told_80 : decode cX3_told 80 = .ok (.if_icmp .ne 7, 3) := by decide +kernel
theorem dX3_told_83 : decode cX3_told 83 = .ok (.iload_n 3, 1) := by decide +kernel
theorem dX3_told_84 : decode cX3_told 84 = .ok (.goto 31, 3) := by decide +kernel
theorem dX3_told_87 : decode cX3_told 87 = .ok (.iload_n 1, 1) := by decide +kernel
theorem dX3_told_88 : decode cX3_told 88 = .ok (.iconst 2, 1) := by decide +kernel
theorem dX3_told_89 : decode cX3_told 89 = .ok (.if_icmp .ne 10, 3) := by decide +kernel
theorem dX3_told_92 : decode cX3_told 92 = .ok (.aload_n 0, 1) := by decide +kernel
theorem dX3_told_93 : decode cX3_told 93 = .ok (.getfield 122, 3) := by decide +kernel
theorem dX3_told_96 : decode cX3_told 96 = .ok (.goto 19, 3) := by decide +kernel
theorem dX3_told_99 : decode cX3_told 99 = .ok (.iload_n 1, 1) := by decide +kernel
theorem dX3_told_100 : decode cX3_told 100 = .ok (.iconst 3, 1) := by decide +kernel
theorem dX3_told_101 : decode cX3_told 101 = .ok (.if_icmp .ne 10, 3) := by decide +kernel
theorem dX3_told_104 : decode cX3_told 104 = .ok (.aload_n 0, 1) := by decide +kernel
theorem dX3_told_105 : decode cX3_told 105 = .ok (.getfield 63, 3) := by decide +kernel
theorem dX3_told_108 : decode cX3_told 108 = .ok (.goto 7, 3) := by decide +kernel
theorem dX3_told_111 : decode cX3_told 111 = .ok (.aload_n 0, 1) := by decide +kernel
theorem dX3_told_112 : decode cX3_told 112 = .ok (.getfield 131, 3) := by decide +kernel
theorem dX3_told_115 : decode cX3_told 115 = .ok (.ireturn, 1) := by decide +kernel
end
section
theorem dL_law_0 : decode cL_law 0 = .ok (.new 7, 3) := by decide +kernel
theorem dL_law_3 : decode cL_law 3 = .ok (.dup, 1) := by decide +kernel
theorem dL_law_4 : decode cL_law 4 = .ok (.invokespecial 9, 3) := by decide +kernel
theorem dL_law_7 : decode cL_law 7 = .ok (.astore_n 1, 1) := by decide +kernel
theorem dL_law_8 : decode cL_law 8 = .ok (.new 10, 3) := by decide +kernel
theorem dL_law_11 : decode cL_law 11 = .ok (.dup, 1) := by decide +kernel
theorem dL_law_12 : decode cL_law 12 = .ok (.invokespecial 12, 3) := by decide +kernel
theorem dL_law_15 : decode cL_law 15 = .ok (.astore_n 2, 1) := by decide +kernel
theorem dL_law_16 : decode cL_law 16 = .ok (.iconst 0, 1) := by decide +kernel
theorem dL_law_17 : decode cL_law 17 = .ok (.istore_n 3, 1) := by decide +kernel
theorem dL_law_18 : decode cL_law 18 = .ok (.iload_n 3, 1) := by decide +kernel
theorem dL_law_19 : decode cL_law 19 = .ok (.aload_n 0, 1) := by decide +kernel
theorem dL_law_20 : decode cL_law 20 = .ok (.arraylength, 1) := by decide +kernel
theorem dL_law_21 : decode cL_law 21 = .ok (.iconst 4, 1) := by decide +kernel
theorem dL_law_22 : decode cL_law 22 = .ok (.isub, 1) := by decide +kernel
theorem dL_law_23 : decode cL_law 23 = .ok (.if_icmp .gt 577, 3) := by decide +kernel
theorem dL_law_26 : decode cL_law 26 = .ok (.aload_n 0, 1) := by decide +kernel
theorem dL_law_27 : decode cL_law 27 = .ok (.iload_n 3, 1) := by decide +kernel
theorem dL_law_28 : decode cL_law 28 = .ok (.iaload, 1) := by decide +kernel
theorem dL_law_29 : decode cL_law 29 = .ok (.bipush 31, 2) := by decide +kernel
theorem dL_law_31 : decode cL_law 31 = .ok (.iand, 1) := by decide +kernel
theorem dL_law_32 : decode cL_law 32 = .ok (.tableswitch 562 0 17 #[88, 101, 124, 157, 190, 223, 266, 299, 322, 335, 348, 371, 394, 407, 440, 473, 506, 539], 88) := by decide +kernel
theorem dL_law_120 : decode cL_law 120 = .ok (.aload_n 1, 1) := by decide +kernel
theorem dL_law_121 : decode cL_law 121 = .ok (.invokevirtual 13, 3) := by decide +kernel
theorem dL_law_124 : decode cL_law 124 = .ok (.aload_n 2, 1) := by decide +kernel
theorem dL_law_125 : decode cL_law 125 = .ok (.invokevirtual 17, 3) := by decide +kernel
theorem dL_law_128 : decode cL_law 128 = .ok (.if_icmp .eq 466, 3) := by decide +kernel
theorem dL_law_131 : decode cL_law 131 = .ok (.iconst 0, 1) := by decide +kernel
theorem dL_law_132 : decode cL_law 132 = .ok (.ireturn, 1) := by decide +kernel
theorem dL_law_133 : decode cL_law 133 = .ok (.aload_n 1, 1) := by decide +kernel
theorem dL_law_134 : decode cL_law 134 = .ok (.aload_n 0, 1) := by decide +kernel
theorem dL_law_135 : decode cL_law 135 = .ok (.iload_n 3, 1) := by decide +kernel
theorem dL_law_136 : decode cL_law 136 = .ok (.iconst 1, 1) := by decide +kernel
theorem dL_law_137 : decode cL_law 137 = .ok (.iadd, 1) := by decide +kernel
theorem dL_law_138 : decode cL_law 138 = .ok (.iaload, 1) := by decide +kernel
theorem dL_law_139 : decode cL_law 139 = .ok (.invokevirtual 18, 3) := by decide +kernel
theorem dL_law_142 : decode cL_law 142 = .ok (.aload_n 2, 1) := by decide +kernel
theorem dL_law_143 : decode cL_law 143 = .ok (.aload_n 0, 1) := by decide +kernel
theorem dL_law_144 : decode cL_law 144 = .ok (.iload_n 3, 1) := by decide +kernel
theorem dL_law_145 : decode cL_law 145 = .ok (.iconst 1, 1) := by decide +kernel
theorem dL_law_146 : decode cL_law 146 = .ok (.iadd, 1) := by decide +kernel
theorem dL_law_147 : decode cL_law 147 = .ok (.iaload, 1) := by decide +kernel
theorem dL_law_148 : decode cL_law 148 = .ok (.invokevirtual 22, 3) := by decide +kernel
theorem dL_law_151 : decode cL_law 151 = .ok (.if_icmp .eq 443, 3) := by decide +kernel
theorem dL_law_154 : decode cL_law 154 = .ok (.iconst 0, 1) := by decide +kernel
theorem dL_law_155 : decode cL_law 155 = .ok (.ireturn, 1) := by decide +kernel
theorem dL_law_156 : decode cL_law 156 = .ok (.aload_n 1, 1) := by decide +kernel
theorem dL_law_157 : decode cL_law 157 = .ok (.aload_n 0, 1) := by decide +kernel
theorem dL_law_158 : decode cL_law 158 = .ok (.iload_n 3, 1) := by decide +kernel
theorem dL_law_159 : decode cL_law 159 = .ok (.iconst 1, 1) := by decide +kernel
theorem dL_law_160 : decode cL_law 160 = .ok (.iadd, 1) := by decide +kernel
theorem dL_law_161 : decode cL_law 161 = .ok (.iaload, 1) := by decide +kernel
theorem dL_law_162 : decode cL_law 162 = .ok (.aload_n 0, 1) := by decide +kernel
theorem dL_law_163 : decode cL_law 163 = .ok (.iload_n 3, 1) := by decide +kernel
theorem dL_law_164 : decode cL_law 164 = .ok (.iconst 2, 1) := by decide +kernel
theorem dL_law_165 : decode cL_law 165 = .ok (.iadd, 1) := by decide +kernel
theorem dL_law_166 : decode cL_law 166 = .ok (.iaload, 1) := by decide +kernel
theorem dL_law_167 : decode cL_law 167 = .ok (.invokevirtual 23, 3) := by decide +kernel
theorem dL_law_170 : decode cL_law 170 = .ok (.aload_n 2, 1) := by decide +kernel
theorem dL_law_171 : decode cL_law 171 = .ok (.aload_n 0, 1) := by decide +kernel
theorem dL_law_172 : decode cL_law 172 = .ok (.iload_n 3, 1) := by decide +kernel
theorem dL_law_173 : decode cL_law 173 = .ok (.iconst 1, 1) := by decide +kernel
theorem dL_law_174 : decode cL_law 174 = .ok (.iadd, 1) := by decide +kernel
theorem dL_law_175 : decode cL_law 175 = .ok (.iaload, 1) := by decide +kernel
theorem dL_law_176 : decode cL_law 176 = .ok (.aload_n 0, 1) := by decide +kernel
theorem dL_law_177 : decode cL_law 177 = .ok (.iload_n 3, 1) := by decide +kernel
theorem dL_law_178 : decode cL_law 178 = .ok (.iconst 2, 1) := by decide +kernel
theorem dL_law_179 : decode cL_law 179 = .ok (.iadd, 1) := by decide +kernel
theorem dL_law_180 : decode cL_law 180 = .ok (.iaload, 1) := by decide +kernel
theorem dL_law_181 : decode cL_law 181 = .ok (.invokevirtual 27, 3) := by decide +kernel
theorem dL_law_184 : decode cL_law 184 = .ok (.if_icmp .eq 410, 3) := by decide +kernel
theorem dL_law_187 : decode cL_law 187 = .ok (.iconst 0, 1) := by decide +kernel
theorem dL_law_188 : decode cL_law 188 = .ok (.ireturn, 1) := by decide +kernel
theorem dL_law_189 : decode cL_law 189 = .ok (.aload_n 1, 1) := by decide +kernel
theorem dL_law_190 : decode cL_law 190 = .ok (.aload_n 0, 1) := by decide +kernel
theorem dL_law_191 : decode cL_law 191 = .ok (.iload_n 3, 1) := by decide +kernel
theorem dL_law_192 : decode cL_law 192 = .ok (.iconst 1, 1) := by decide +kernel
theorem dL_law_193 : decode cL_law 193 = .ok (.iadd, 1) := by decide +kernel
theorem dL_law_194 : decode cL_law 194 = .ok (.iaload, 1) := by decide +kernel
theorem dL_law_195 : decode cL_law 195 = .ok (.aload_n 0, 1) := by decide +kernel
theorem dL_law_196 : decode cL_law 196 = .ok (.iload_n 3, 1) := by decide +kernel
theorem dL_law_197 : decode cL_law 197 = .ok (.iconst 2, 1) := by decide +kernel
theorem dL_law_198 : decode cL_law 198 = .ok (.iadd, 1) := by decide +kernel
theorem dL_law_199 : decode cL_law 199 = .ok (.iaload, 1) := by decide +kernel
theorem dL_law_200 : decode cL_law 200 = .ok (.invokevirtual 28, 3) := by decide +kernel
theorem dL_law_203 : decode cL_law 203 = .ok (.aload_n 2, 1) := by decide +kernel
theorem dL_law_204 : decode cL_law 204 = .ok (.aload_n 0, 1) := by decide +kernel
theorem dL_law_205 : decode cL_law 205 = .ok (.iload_n 3, 1) := by decide +kernel
theorem dL_law_206 : decode cL_law 206 = .ok (.iconst 1, 1) := by decide +kernel
theorem dL_law_207 : decode cL_law 207 = .ok (.iadd, 1) := by decide +kernel
theorem dL_law_208 : decode cL_law 208 = .ok (.iaload, 1) := by decide +kernel
theorem dL_law_209 : decode cL_law 209 = .ok (.aload_n 0, 1) := by decide +kernel
theorem dL_law_210 : decode cL_law 210 = .ok (.iload_n 3, 1) := by decide +kernel
theorem dL_law_211 : decode cL_law 211 = .ok (.iconst 2, 1) := by decide +kernel
theorem dL_law_212 : decode cL_law 212 = .ok (.iadd, 1) := by decide +kernel
theorem dL_law_213 : decode cL_law 213 = .ok (.iaload, 1) := by decide +kernel
theorem dL_law_214 : decode cL_law 214 = .ok (.invokevirtual 31, 3) := by decide +kernel
theorem dL_law_217 : decode cL_law 217 = .ok (.if_icmp .eq 377, 3) := by decide +kernel
theorem dL_law_220 : decode cL_law 220 = .ok (.iconst 0, 1) := by decide +kernel
theorem dL_law_221 : decode cL_law 221 = .ok (.ireturn, 1) := by decide +kernel
theorem dL_law_222 : decode cL_law 222 = .ok (.aload_n 1, 1) := by decide +kernel
theorem dL_law_223 : decode cL_law 223 = .ok (.aload_n 0, 1) := by decide +kernel
theorem dL_law_224 : decode cL_law 224 = .ok (.iload_n 3, 1) := by decide +kernel
theorem dL_law_225 : decode cL_law 225 = .ok (.iconst 1, 1) := by decide +kernel
theorem dL_law_226 : decode cL_law 226 = .ok (.iadd, 1) := by decide +kernel
theorem dL_law_227 : decode cL_law 227 = .ok (.iaload, 1) := by decide +kernel
theorem dL_law_228 : decode cL_law 228 = .ok (.aload_n 0, 1) := by decide +kernel
theorem dL_law_229 : decode cL_law 229 = .ok (.iload_n 3, 1) := by decide +kernel
theorem dL_law_230 : decode cL_law 230 = .ok (.iconst 2, 1) := by decide +kernel
theorem dL_law_231 : decode cL_law 231 = .ok (.iadd, 1) := by decide +kernel
theorem dL_law_232 : decode cL_law 232 = .ok (.iaload, 1) := by decide +kernel
theorem dL_law_233 : decode cL_law 233 = .ok (.invokevirtual 32, 3) := by decide +kernel
theorem dL_law_236 : decode cL_law 236 = .ok (.aload_n 2, 1) := by decide +kernel
theorem dL_law_237 : decode cL_law 237 = .ok (.aload_n 0, 1) := by decide +kernel
theorem dL_law_238 : decode cL_law 238 = .ok (.iload_n 3, 1) := by decide +kernel
theorem dL_law_239 : decode cL_law 239 = .ok (.iconst 1, 1) := by decide +kernel
theorem dL_law_240 : decode cL_law 240 = .ok (.iadd, 1) := by decide +kernel
theorem dL_law_241 : decode cL_law 241 = .ok (.iaload, 1) := by decide +kernel
theorem dL_law_242 : decode cL_law 242 = .ok (.aload_n 0, 1) := by decide +kernel
theorem dL_law_243 : decode cL_law 243 = .ok (.iload_n 3, 1) := by decide +kernel
theorem dL_law_244 : decode cL_law 244 = .ok (.iconst 2, 1) := by decide +kernel
theorem dL_law_245 : decode cL_law 245 = .ok (.iadd, 1) := by decide +kernel
theorem dL_law_246 : decode cL_law 246 = .ok (.iaload, 1) := by decide +kernel
theorem dL_law_247 : decode cL_law 247 = .ok (.invokevirtual 36, 3) := by decide +kernel
theorem dL_law_250 : decode cL_law 250 = .ok (.if_icmp .eq 344, 3) := by decide +kernel
theorem dL_law_253 : decode cL_law 253 = .ok (.iconst 0, 1) := by decide +kernel
theorem dL_law_254 : decode cL_law 254 = .ok (.ireturn, 1) := by decide +kernel
theorem dL_law_255 : decode cL_law 255 = .ok (.aload_n 1, 1) := by decide +kernel
theorem dL_law_256 : decode cL_law 256 = .ok (.aload_n 0, 1) := by decide +kernel
theorem dL_law_257 : decode cL_law 257 = .ok (.iload_n 3, 1) := by decide +kernel
theorem dL_law_258 : decode cL_law 258 = .ok (.iconst 1, 1) := by decide +kernel
theorem dL_law_259 : decode cL_law 259 = .ok (.iadd, 1) := by decide +kernel
theorem dL_law_260 : decode cL_law 260 = .ok (.iaload, 1) := by decide +kernel
theorem dL_law_261 : decode cL_law 261 = .ok (.aload_n 0, 1) := by decide +kernel
theorem dL_law_262 : decode cL_law 262 = .ok (.iload_n 3, 1) := by decide +kernel
theorem dL_law_263 : decode cL_law 263 = .ok (.iconst 2, 1) := by decide +kernel
theorem dL_law_264 : decode cL_law 264 = .ok (.iadd, 1) := by decide +kernel
theorem dL_law_265 : decode cL_law 265 = .ok (.iaload, 1) := by decide +kernel
theorem dL_law_266 : decode cL_law 266 = .ok (.aload_n 0, 1) := by decide +kernel
theorem dL_law_267 : decode cL_law 267 = .ok (.iload_n 3, 1) := by decide +kernel
theorem dL_law_268 : decode cL_law 268 = .ok (.iconst 3, 1) := by decide +kernel
theorem dL_law_269 : decode cL_law 269 = .ok (.iadd, 1) := by decide +kernel
theorem dL_law_270 : decode cL_law 270 = .ok (.iaload, 1) := by decide +kernel
theorem dL_law_271 : decode cL_law 271 = .ok (.invokevirtual 37, 3) := by decide +kernel
theorem dL_law_274 : decode cL_law 274 = .ok (.aload_n 2, 1) := by decide +kernel
theorem dL_law_275 : decode cL_law 275 = .ok (.aload_n 0, 1) := by decide +kernel
theorem dL_law_276 : decode cL_law 276 = .ok (.iload_n 3, 1) := by decide +kernel
theorem dL_law_277 : decode cL_law 277 = .ok (.iconst 1, 1) := by decide +kernel
theorem dL_law_278 : decode cL_law 278 = .ok (.iadd, 1) := by decide +kernel
theorem dL_law_279 : decode cL_law 279 = .ok (.iaload, 1) := by decide +kernel
theorem dL_law_280 : decode cL_law 280 = .ok (.aload_n 0, 1) := by decide +kernel
theorem dL_law_281 : decode cL_law 281 = .ok (.iload_n 3, 1) := by decide +kernel
theorem dL_law_282 : decode cL_law 282 = .ok (.iconst 2, 1) := by decide +kernel
theorem dL_law_283 : decode cL_law 283 = .ok (.iadd, 1) := by decide +kernel
theorem dL_law_284 : decode cL_law 284 = .ok (.iaload, 1) := by decide +kernel
theorem dL_law_285 : decode cL_law 285 = .ok (.aload_n 0, 1) := by decide +kernel
theorem dL_law_286 : decode cL_law 286 = .ok (.iload_n 3, 1) := by decide +kernel
theorem dL_law_287 : decode cL_law 287 = .ok (.iconst 3, 1) := by decide +kernel
theorem dL_law_288 : decode cL_law 288 = .ok (.iadd, 1) := by decide +kernel
theorem dL_law_289 : decode cL_law 289 = .ok (.iaload, 1) := by decide +kernel
theorem dL_law_290 : decode cL_law 290 = .ok (.invokevirtual 41, 3) := by decide +kernel
theorem dL_law_293 : decode cL_law 293 = .ok (.if_icmp .eq 301, 3) := by decide +kernel
theorem dL_law_296 : decode cL_law 296 = .ok (.iconst 0, 1) := by decide +kernel
theorem dL_law_297 : decode cL_law 297 = .ok (.ireturn, 1) := by decide +kernel
theorem dL_law_298 : decode cL_law 298 = .ok (.aload_n 1, 1) := by decide +kernel
theorem dL_law_299 : decode cL_law 299 = .ok (.aload_n 0, 1) := by decide +kernel
theorem dL_law_300 : decode cL_law 300 = .ok (.iload_n 3, 1) := by decide +kernel
theorem dL_law_301 : decode cL_law 301 = .ok (.iconst 1, 1) := by decide +kernel
theorem dL_law_302 : decode cL_law 302 = .ok (.iadd, 1) := by decide +kernel
theorem dL_law_303 : decode cL_law 303 = .ok (.iaload, 1) := by decide +kernel
theorem dL_law_304 : decode cL_law 304 = .ok (.aload_n 0, 1) := by decide +kernel
theorem dL_law_305 : decode cL_law 305 = .ok (.iload_n 3, 1) := by decide +kernel
theorem dL_law_306 : decode cL_law 306 = .ok (.iconst 2, 1) := by decide +kernel
theorem dL_law_307 : decode cL_law 307 = .ok (.iadd, 1) := by decide +kernel
theorem dL_law_308 : decode cL_law 308 = .ok (.iaload, 1) := by decide +kernel
theorem dL_law_309 : decode cL_law 309 = .ok (.invokevirtual 42, 3) := by decide +kernel
theorem dL_law_312 : decode cL_law 312 = .ok (.aload_n 2, 1) := by decide +kernel
theorem dL_law_313 : decode cL_law 313 = .ok (.aload_n 0, 1) := by decide +kernel
theorem dL_law_314 : decode cL_law 314 = .ok (.iload_n 3, 1) := by decide +kernel
theorem dL_law_315 : decode cL_law 315 = .ok (.iconst 1, 1) := by decide +kernel
theorem dL_law_316 : decode cL_law 316 = .ok (.iadd, 1) := by decide +kernel
theorem dL_law_317 : decode cL_law 317 = .ok (.iaload, 1) := by decide +kernel
theorem dL_law_318 : decode cL_law 318 = .ok (.aload_n 0, 1) := by decide +kernel
theorem dL_law_319 : decode cL_law 319 = .ok (.iload_n 3, 1) := by decide +kernel
theorem dL_law_320 : decode cL_law 320 = .ok (.iconst 2, 1) := by decide +kernel
theorem dL_law_321 : decode cL_law 321 = .ok (.iadd, 1) := by decide +kernel
theorem dL_law_322 : decode cL_law 322 = .ok (.iaload, 1) := by decide +kernel
theorem dL_law_323 : decode cL_law 323 = .ok (.invokevirtual 45, 3) := by decide +kernel
theorem dL_law_326 : decode cL_law 326 = .ok (.if_icmp .eq 268, 3) := by decide +kernel
theorem dL_law_329 : decode cL_law 329 = .ok (.iconst 0, 1) := by decide +kernel
theorem dL_law_330 : decode cL_law 330 = .ok (.ireturn, 1) := by decide +kernel
theorem dL_law_331 : decode cL_law 331 = .ok (.aload_n 1, 1) := by decide +kernel
theorem dL_law_332 : decode cL_law 332 = .ok (.aload_n 0, 1) := by decide +kernel
theorem dL_law_333 : decode cL_law 333 = .ok (.iload_n 3, 1) := by decide +kernel
theorem dL_law_334 : decode cL_law 334 = .ok (.iconst 1, 1) := by decide +kernel
theorem dL_law_335 : decode cL_law 335 = .ok (.iadd, 1) := by decide +kernel
theorem dL_law_336 : decode cL_law 336 = .ok (.iaload, 1) := by decide +kernel
theorem dL_law_337 : decode cL_law 337 = .ok (.invokevirtual 46, 3) := by decide +kernel
theorem dL_law_340 : decode cL_law 340 = .ok (.aload_n 2, 1) := by decide +kernel
theorem dL_law_341 : decode cL_law 341 = .ok (.aload_n 0, 1) := by decide +kernel
theorem dL_law_342 : decode cL_law 342 = .ok (.iload_n 3, 1) := by decide +kernel
theorem dL_law_343 : decode cL_law 343 = .ok (.iconst 1, 1) := by decide +kernel
theorem dL_law_344 : decode cL_law 344 = .ok (.iadd, 1) := by decide +kernel
theorem dL_law_345 : decode cL_law 345 = .ok (.iaload, 1) := by decide +kernel
theorem dL_law_346 : decode cL_law 346 = .ok (.invokevirtual 49, 3) := by decide +kernel
theorem dL_law_349 : decode cL_law 349 = .ok (.if_icmp .eq 245, 3) := by decide +kernel
theorem dL_law_352 : decode cL_law 352 = .ok (.iconst 0, 1) := by decide +kernel
theorem dL_law_353 : decode cL_law 353 = .ok (.ireturn, 1) := by decide +kernel
theorem dL_law_354 : decode cL_law 354 = .ok (.aload_n 1, 1) := by decide +kernel
theorem dL_law_355 : decode cL_law 355 = .ok (.invokevirtual 50, 3) := by decide +kernel
theorem dL_law_358 : decode cL_law 358 = .ok (.aload_n 2, 1) := by decide +kernel
theorem dL_law_359 : decode cL_law 359 = .ok (.invokevirtual 53, 3) := by decide +kernel
theorem dL_law_362 : decode cL_law 362 = .ok (.if_icmp .eq 232, 3) := by decide +kernel
theorem dL_law_365 : decode cL_law 365 = .ok (.iconst 0, 1) := by decide +kernel
theorem dL_law_366 : decode cL_law 366 = .ok (.ireturn, 1) := by decide +kernel
theorem dL_law_367 : decode cL_law 367 = .ok (.aload_n 1, 1) := by decide +kernel
theorem dL_law_368 : decode cL_law 368 = .ok (.invokevirtual 54, 3) := by decide +kernel
theorem dL_law_371 : decode cL_law 371 = .ok (.aload_n 2, 1) := by decide +kernel
theorem dL_law_372 : decode cL_law 372 = .ok (.invokevirtual 57, 3) := by decide +kernel
theorem dL_law_375 : decode cL_law 375 = .ok (.if_icmp .eq 219, 3) := by decide +kernel
theorem dL_law_378 : decode cL_law 378 = .ok (.iconst 0, 1) := by decide +kernel
theorem dL_law_379 : decode cL_law 379 = .ok (.ireturn, 1) := by decide +kernel
theorem dL_law_380 : decode cL_law 380 = .ok (.aload_n 1, 1) := by decide +kernel
theorem dL_law_381 : decode cL_law 381 = .ok (.aload_n 0, 1) := by decide +kernel
theorem dL_law_382 : decode cL_law 382 = .ok (.iload_n 3, 1) := by decide +kernel
theorem dL_law_383 : decode cL_law 383 = .ok (.iconst 1, 1) := by decide +kernel
theorem dL_law_384 : decode cL_law 384 = .ok (.iadd, 1) := by decide +kernel
theorem dL_law_385 : decode cL_law 385 = .ok (.iaload, 1) := by decide +kernel
theorem dL_law_386 : decode cL_law 386 = .ok (.invokevirtual 58, 3) := by decide +kernel
theorem dL_law_389 : decode cL_law 389 = .ok (.aload_n 2, 1) := by decide +kernel
theorem dL_law_390 : decode cL_law 390 = .ok (.aload_n 0, 1) := by decide +kernel
theorem dL_law_391 : decode cL_law 391 = .ok (.iload_n 3, 1) := by decide +kernel
theorem dL_law_392 : decode cL_law 392 = .ok (.iconst 1, 1) := by decide +kernel
theorem dL_law_393 : decode cL_law 393 = .ok (.iadd, 1) := by decide +kernel
theorem dL_law_394 : decode cL_law 394 = .ok (.iaload, 1) := by decide +kernel
theorem dL_law_395 : decode cL_law 395 = .ok (.invokevirtual 61, 3) := by decide +kernel
theorem dL_law_398 : decode cL_law 398 = .ok (.if_icmp .eq 196, 3) := by decide +kernel
theorem dL_law_401 : decode cL_law 401 = .ok (.iconst 0, 1) := by decide +kernel
theorem dL_law_402 : decode cL_law 402 = .ok (.ireturn, 1) := by decide +kernel
theorem dL_law_403 : decode cL_law 403 = .ok (.aload_n 1, 1) := by decide +kernel
theorem dL_law_404 : decode cL_law 404 = .ok (.aload_n 0, 1) := by decide +kernel
theorem dL_law_405 : decode cL_law 405 = .ok (.iload_n 3, 1) := by decide +kernel
theorem dL_law_406 : decode cL_law 406 = .ok (.iconst 1, 1) := by decide +kernel
theorem dL_law_407 : decode cL_law 407 = .ok (.iadd, 1) := by decide +kernel
theorem dL_law_408 : decode cL_law 408 = .ok (.iaload, 1) := by decide +kernel
theorem dL_law_409 : decode cL_law 409 = .ok (.invokevirtual 62, 3) := by decide +kernel
theorem dL_law_412 : decode cL_law 412 = .ok (.aload_n 2, 1) := by decide +kernel
theorem dL_law_413 : decode cL_law 413 = .ok (.aload_n 0, 1) := by decide +kernel
theorem dL_law_414 : decode cL_law 414 = .ok (.iload_n 3, 1) := by decide +kernel
theorem dL_law_415 : decode cL_law 415 = .ok (.iconst 1, 1) := by decide +kernel
theorem dL_law_416 : decode cL_law 416 = .ok (.iadd, 1) := by decide +kernel
theorem dL_law_417 : decode cL_law 417 = .ok (.iaload, 1) := by decide +kernel
theorem dL_law_418 : decode cL_law 418 = .ok (.invokevirtual 65, 3) := by decide +kernel
theorem dL_law_421 : decode cL_law 421 = .ok (.if_icmp .eq 173, 3) := by decide +kernel
theorem dL_law_424 : decode cL_law 424 = .ok (.iconst 0, 1) := by decide +kernel
theorem dL_law_425 : decode cL_law 425 = .ok (.ireturn, 1) := by decide +kernel
theorem dL_law_426 : decode cL_law 426 = .ok (.aload_n 1, 1) := by decide +kernel
theorem dL_law_427 : decode cL_law 427 = .ok (.invokevirtual 66, 3) := by decide +kernel
theorem dL_law_430 : decode cL_law 430 = .ok (.aload_n 2, 1) := by decide +kernel
theorem dL_law_431 : decode cL_law 431 = .ok (.invokevirtual 69, 3) := by decide +kernel
theorem dL_law_434 : decode cL_law 434 = .ok (.if_icmp .eq 160, 3) := by decide +kernel
theorem dL_law_437 : decode cL_law 437 = .ok (.iconst 0, 1) := by decide +kernel
theorem dL_law_438 : decode cL_law 438 = .ok (.ireturn, 1) := by decide +kernel
theorem dL_law_439 : decode cL_law 439 = .ok (.aload_n 1, 1) := by decide +kernel
theorem dL_law_440 : decode cL_law 440 = .ok (.aload_n 0, 1) := by decide +kernel
theorem dL_law_441 : decode cL_law 441 = .ok (.iload_n 3, 1) := by decide +kernel
theorem dL_law_442 : decode cL_law 442 = .ok (.iconst 1, 1) := by decide +kernel
theorem dL_law_443 : decode cL_law 443 = .ok (.iadd, 1) := by decide +kernel
theorem dL_law_444 : decode cL_law 444 = .ok (.iaload, 1) := by decide +kernel
theorem dL_law_445 : decode cL_law 445 = .ok (.aload_n 0, 1) := by decide +kernel
theorem dL_law_446 : decode cL_law 446 = .ok (.iload_n 3, 1) := by decide +kernel
theorem dL_law_447 : decode cL_law 447 = .ok (.iconst 2, 1) := by decide +kernel
theorem dL_law_448 : decode cL_law 448 = .ok (.iadd, 1) := by decide +kernel
theorem dL_law_449 : decode cL_law 449 = .ok (.iaload, 1) := by decide +kernel
theorem dL_law_450 : decode cL_law 450 = .ok (.invokevirtual 70, 3) := by decide +kernel
theorem dL_law_453 : decode cL_law 453 = .ok (.aload_n 2, 1) := by decide +kernel
theorem dL_law_454 : decode cL_law 454 = .ok (.aload_n 0, 1) := by decide +kernel
theorem dL_law_455 : decode cL_law 455 = .ok (.iload_n 3, 1) := by decide +kernel
theorem dL_law_456 : decode cL_law 456 = .ok (.iconst 1, 1) := by decide +kernel
theorem dL_law_457 : decode cL_law 457 = .ok (.iadd, 1) := by decide +kernel
theorem dL_law_458 : decode cL_law 458 = .ok (.iaload, 1) := by decide +kernel
theorem dL_law_459 : decode cL_law 459 = .ok (.aload_n 0, 1) := by decide +kernel
theorem dL_law_460 : decode cL_law 460 = .ok (.iload_n 3, 1) := by decide +kernel
theorem dL_law_461 : decode cL_law 461 = .ok (.iconst 2, 1) := by decide +kernel
theorem dL_law_462 : decode cL_law 462 = .ok (.iadd, 1) := by decide +kernel
theorem dL_law_463 : decode cL_law 463 = .ok (.iaload, 1) := by decide +kernel
theorem dL_law_464 : decode cL_law 464 = .ok (.invokevirtual 73, 3) := by decide +kernel
theorem dL_law_467 : decode cL_law 467 = .ok (.if_icmp .eq 127, 3) := by decide +kernel
theorem dL_law_470 : decode cL_law 470 = .ok (.iconst 0, 1) := by decide +kernel
theorem dL_law_471 : decode cL_law 471 = .ok (.ireturn, 1) := by decide +kernel
theorem dL_law_472 : decode cL_law 472 = .ok (.aload_n 1, 1) := by decide +kernel
theorem dL_law_473 : decode cL_law 473 = .ok (.aload_n 0, 1) := by decide +kernel
theorem dL_law_474 : decode cL_law 474 = .ok (.iload_n 3, 1) := by decide +kernel
theorem dL_law_475 : decode cL_law 475 = .ok (.iconst 1, 1) := by decide +kernel
theorem dL_law_476 : decode cL_law 476 = .ok (.iadd, 1) := by decide +kernel
theorem dL_law_477 : decode cL_law 477 = .ok (.iaload, 1) := by decide +kernel
theorem dL_law_478 : decode cL_law 478 = .ok (.aload_n 0, 1) := by decide +kernel
theorem dL_law_479 : decode cL_law 479 = .ok (.iload_n 3, 1) := by decide +kernel
theorem dL_law_480 : decode cL_law 480 = .ok (.iconst 2, 1) := by decide +kernel
theorem dL_law_481 : decode cL_law 481 = .ok (.iadd, 1) := by decide +kernel
theorem dL_law_482 : decode cL_law 482 = .ok (.iaload, 1) := by decide +kernel
theorem dL_law_483 : decode cL_law 483 = .ok (.invokevirtual 74, 3) := by decide +kernel
theorem dL_law_486 : decode cL_law 486 = .ok (.aload_n 2, 1) := by decide +kernel
theorem dL_law_487 : decode cL_law 487 = .ok (.aload_n 0, 1) := by decide +kernel
theorem dL_law_488 : decode cL_law 488 = .ok (.iload_n 3, 1) := by decide +kernel
theorem dL_law_489 : decode cL_law 489 = .ok (.iconst 1, 1) := by decide +kernel
theorem dL_law_490 : decode cL_law 490 = .ok (.iadd, 1) := by decide +kernel
theorem dL_law_491 : decode cL_law 491 = .ok (.iaload, 1) := by decide +kernel
theorem dL_law_492 : decode cL_law 492 = .ok (.aload_n 0, 1) := by decide +kernel
theorem dL_law_493 : decode cL_law 493 = .ok (.iload_n 3, 1) := by decide +kernel
theorem dL_law_494 : decode cL_law 494 = .ok (.iconst 2, 1) := by decide +kernel
theorem dL_law_495 : decode cL_law 495 = .ok (.iadd, 1) := by decide +kernel
theorem dL_law_496 : decode cL_law 496 = .ok (.iaload, 1) := by decide +kernel
theorem dL_law_497 : decode cL_law 497 = .ok (.invokevirtual 77, 3) := by decide +kernel
theorem dL_law_500 : decode cL_law 500 = .ok (.if_icmp .eq 94, 3) := by decide +kernel
theorem dL_law_503 : decode cL_law 503 = .ok (.iconst 0, 1) := by decide +kernel
theorem dL_law_504 : decode cL_law 504 = .ok (.ireturn, 1) := by decide +kernel
theorem dL_law_505 : decode cL_law 505 = .ok (.aload_n 1, 1) := by decide +kernel
theorem dL_law_506 : decode cL_law 506 = .ok (.aload_n 0, 1) := by decide +kernel
theorem dL_law_507 : decode cL_law 507 = .ok (.iload_n 3, 1) := by decide +kernel
theorem dL_law_508 : decode cL_law 508 = .ok (.iconst 1, 1) := by decide +kernel
theorem dL_law_509 : decode cL_law 509 = .ok (.iadd, 1) := by decide +kernel
theorem dL_law_510 : decode cL_law 510 = .ok (.iaload, 1) := by decide +kernel
theorem dL_law_511 : decode cL_law 511 = .ok (.aload_n 0, 1) := by decide +kernel
theorem dL_law_512 : decode cL_law 512 = .ok (.iload_n 3, 1) := by decide +kernel
theorem dL_law_513 : decode cL_law 513 = .ok (.iconst 2, 1) := by decide +kernel
theorem dL_law_514 : decode cL_law 514 = .ok (.iadd, 1) := by decide +kernel
theorem dL_law_515 : decode cL_law 515 = .ok (.iaload, 1) := by decide +kernel
theorem dL_law_516 : decode cL_law 516 = .ok (.invokevirtual 78, 3) := by decide +kernel
theorem dL_law_519 : decode cL_law 519 = .ok (.aload_n 2, 1) := by decide +kernel
theorem dL_law_520 : decode cL_law 520 = .ok (.aload_n 0, 1) := by decide +kernel
theorem dL_law_521 : decode cL_law 521 = .ok (.iload_n 3, 1) := by decide +kernel
theorem dL_law_522 : decode cL_law 522 = .ok (.iconst 1, 1) := by decide +kernel
theorem dL_law_523 : decode cL_law 523 = .ok (.iadd, 1) := by decide +kernel
theorem dL_law_524 : decode cL_law 524 = .ok (.iaload, 1) := by decide +kernel
theorem dL_law_525 : decode cL_law 525 = .ok (.aload_n 0, 1) := by decide +kernel
theorem dL_law_526 : decode cL_law 526 = .ok (.iload_n 3, 1) := by decide +kernel
theorem dL_law_527 : decode cL_law 527 = .ok (.iconst 2, 1) := by decide +kernel
theorem dL_law_528 : decode cL_law 528 = .ok (.iadd, 1) := by decide +kernel
theorem dL_law_529 : decode cL_law 529 = .ok (.iaload, 1) := by decide +kernel
theorem dL_law_530 : decode cL_law 530 = .ok (.invokevirtual 81, 3) := by decide +kernel
theorem dL_law_533 : decode cL_law 533 = .ok (.if_icmp .eq 61, 3) := by decide +kernel
theorem dL_law_536 : decode cL_law 536 = .ok (.iconst 0, 1) := by decide +kernel
theorem dL_law_537 : decode cL_law 537 = .ok (.ireturn, 1) := by decide +kernel
theorem dL_law_538 : decode cL_law 538 = .ok (.aload_n 1, 1) := by decide +kernel
theorem dL_law_539 : decode cL_law 539 = .ok (.aload_n 0, 1) := by decide +kernel
theorem dL_law_540 : decode cL_law 540 = .ok (.iload_n 3, 1) := by decide +kernel
theorem dL_law_541 : decode cL_law 541 = .ok (.iconst 1, 1) := by decide +kernel
theorem dL_law_542 : decode cL_law 542 = .ok (.iadd, 1) := by decide +kernel
theorem dL_law_543 : decode cL_law 543 = .ok (.iaload, 1) := by decide +kernel
theorem dL_law_544 : decode cL_law 544 = .ok (.aload_n 0, 1) := by decide +kernel
theorem dL_law_545 : decode cL_law 545 = .ok (.iload_n 3, 1) := by decide +kernel
theorem dL_law_546 : decode cL_law 546 = .ok (.iconst 2, 1) := by decide +kernel
theorem dL_law_547 : decode cL_law 547 = .ok (.iadd, 1) := by decide +kernel
theorem dL_law_548 : decode cL_law 548 = .ok (.iaload, 1) := by decide +kernel
theorem dL_law_549 : decode cL_law 549 = .ok (.invokevirtual 82, 3) := by decide +kernel
theorem dL_law_552 : decode cL_law 552 = .ok (.aload_n 2, 1) := by decide +kernel
theorem dL_law_553 : decode cL_law 553 = .ok (.aload_n 0, 1) := by decide +kernel
theorem dL_law_554 : decode cL_law 554 = .ok (.iload_n 3, 1) := by decide +kernel
theorem dL_law_555 : decode cL_law 555 = .ok (.iconst 1, 1) := by decide +kernel
theorem dL_law_556 : decode cL_law 556 = .ok (.iadd, 1) := by decide +kernel
theorem dL_law_557 : decode cL_law 557 = .ok (.iaload, 1) := by decide +kernel
theorem dL_law_558 : decode cL_law 558 = .ok (.aload_n 0, 1) := by decide +kernel
theorem dL_law_559 : decode cL_law 559 = .ok (.iload_n 3, 1) := by decide +kernel
theorem dL_law_560 : decode cL_law 560 = .ok (.iconst 2, 1) := by decide +kernel
theorem dL_law_561 : decode cL_law 561 = .ok (.iadd, 1) := by decide +kernel
theorem dL_law_562 : decode cL_law 562 = .ok (.iaload, 1) := by decide +kernel
theorem dL_law_563 : decode cL_law 563 = .ok (.invokevirtual 85, 3) := by decide +kernel
theorem dL_law_566 : decode cL_law 566 = .ok (.if_icmp .eq 28, 3) := by decide +kernel
theorem dL_law_569 : decode cL_law 569 = .ok (.iconst 0, 1) := by decide +kernel
theorem dL_law_570 : decode cL_law 570 = .ok (.ireturn, 1) := by decide +kernel
theorem dL_law_571 : decode cL_law 571 = .ok (.aload_n 1, 1) := by decide +kernel
theorem dL_law_572 : decode cL_law 572 = .ok (.aload_n 0, 1) := by decide +kernel
theorem dL_law_573 : decode cL_law 573 = .ok (.iload_n 3, 1) := by decide +kernel
theorem dL_law_574 : decode cL_law 574 = .ok (.iconst 1, 1) := by decide +kernel
theorem dL_law_575 : decode cL_law 575 = .ok (.iadd, 1) := by decide +kernel
theorem dL_law_576 : decode cL_law 576 = .ok (.iaload, 1) := by decide +kernel
theorem dL_law_577 : decode cL_law 577 = .ok (.invokevirtual 86, 3) := by decide +kernel
theorem dL_law_580 : decode cL_law 580 = .ok (.aload_n 2, 1) := by decide +kernel
theorem dL_law_581 : decode cL_law 581 = .ok (.aload_n 0, 1) := by decide +kernel
theorem dL_law_582 : decode cL_law 582 = .ok (.iload_n 3, 1) := by decide +kernel
theorem dL_law_583 : decode cL_law 583 = .ok (.iconst 1, 1) := by decide +kernel
theorem dL_law_584 : decode cL_law 584 = .ok (.iadd, 1) := by decide +kernel
theorem dL_law_585 : decode cL_law 585 = .ok (.iaload, 1) := by decide +kernel
theorem dL_law_586 : decode cL_law 586 = .ok (.invokevirtual 89, 3) := by decide +kernel
theorem dL_law_589 : decode cL_law 589 = .ok (.if_icmp .eq 5, 3) := by decide +kernel
theorem dL_law_592 : decode cL_law 592 = .ok (.iconst 0, 1) := by decide +kernel
theorem dL_law_593 : decode cL_law 593 = .ok (.ireturn, 1) := by decide +kernel
theorem dL_law_594 : decode cL_law 594 = .ok (.iinc 3 4, 3) := by decide +kernel
theorem dL_law_597 : decode cL_law 597 = .ok (.goto (-579), 3) := by decide +kernel
theorem dL_law_600 : decode cL_law 600 = .ok (.iconst 1, 1) := by decide +kernel
theorem dL_law_601 : decode cL_law 601 = .ok (.ireturn, 1) := by decide +kernel
end
section
/-! Rows of our own: a state of the system is KS (arrays by number, scalars by number); a method's model is a function to Option (answer, state); Cr says that the machine at pc does what the model says. -/
abbrev KS : Type := (Nat → Nat → Int32) × (Nat → Int32)
abbrev KR : Type := Option (Int32 × KS)
def rd (σ : KS) (k : Nat) (i : Int32) : Int32 := σ.1 k i.toNatClampNeg
def wr (σ : KS) (k : Nat) (i x : Int32) : KS := (va_up σ.1 k (upd (σ.1 k) i.toNatClampNeg x), σ.2)
def gv (σ : KS) (j : Nat) : Int32 := σ.2 j
def sv (σ : KS) (j : Nat) (x : Int32) : KS := (σ.1, va_up σ.2 j x)
def chk (i : Int32) (n : Nat) (k : KR) : KR := if 0 ≤ i.toInt ∧ i.toInt < n then k else none
def zchk (r : Int32) (k : KR) : KR := if r = 0 ∨ r = 1 then k else none
def bnd (x : KR) (f : Int32 → KS → KR) : KR := match x with
  | some (a, b) => f a b
  | none => none
def FU : Nat := 1100
theorem chk_some {i : Int32} {n : Nat} {k : KR} {y : Int32 × KS} (h : chk i n k = some y) : vp_in i n ∧ k = some y := by
  unfold chk at h
  by_cases hc : 0 ≤ i.toInt ∧ i.toInt < n
  · rw [if_pos hc] at h; exact ⟨vp_in_iff.mpr hc, h⟩
  · rw [if_neg hc] at h; cases h
theorem zchk_some {r : Int32} {k : KR} {y : Int32 × KS} (h : zchk r k = some y) : (r = 0 ∨ r = 1) ∧ k = some y := by
  unfold zchk at h
  by_cases hc : r = 0 ∨ r = 1
  · rw [if_pos hc] at h; exact ⟨hc, h⟩
  · rw [if_neg hc] at h; cases h
theorem bnd_some {x : KR} {f : Int32 → KS → KR} {y : Int32 × KS} (h : bnd x f = some y) : ∃ a b, x = some (a, b) ∧ f a b = some y := by
  unfold bnd at h
  match x, h with
  | some (a, b), h => exact ⟨a, b, rfl, h⟩
/-- the three nest links -/
def nst (U : State) : Prop := va_Nw (.methodLinkNest RX0 18 yX2_isOrder RX2) U ∧ va_Nw (.methodLinkNest RX0 40 yX2_isFrame RX2) U ∧ va_Nw (.methodLinkNest RX1 19 yX2_isFrame RX2) U
theorem nst.warm {s U : State} (hW : s.WarmedH U.vm) (h : nst s) : nst U := ⟨va_Nw.warmM hW h.1, va_Nw.warmM hW h.2.1, va_Nw.warmM hW h.2.2⟩
theorem nst.same {s U : State} (hvm : s.vm = U.vm) (h : nst s) : nst U := ⟨va_Nw.same rfl hvm h.1, va_Nw.same rfl hvm h.2.1, va_Nw.same rfl hvm h.2.2⟩
def kE (D : va_G) (tys : List (ClassId × FieldType)) (U : State) : Prop := va_K D vwCl tys U ∧ nst U
def kPc (D : va_G) (tys : List (ClassId × FieldType)) (kw : KS → va_W) (av : List Value) (σ : KS) : Array Value → State → Prop := va_Pc av (fun U => va_P D vwCl (kw σ) U.heap ∧ kE D tys U)
def kQ (D : va_G) (kw : KS → va_W) (A : Nat → Prop) (vo : Int32 → Option Value) (r : Int32) (σ : KS) : Array Value → State → Outcome → State → Prop := fun _ st oc t => oc = .returned (vo r) ∧ va_P D vwCl (kw σ) t.heap ∧ va_F A st t
def rmd (d : Nat) : Room := { frames := d, cells := 0, slots := 0, locals := 30 * d }
abbrev wsM (y : MethodName) (cc : ByteArray) (nL : Nat) (ret : Option FieldType) : List Cond := .code y cc nL ret :: wA

theorem zn {x : Int32} (h : x = 0 ∨ x = 1) : vp_nar .boolean x = x := by rcases h with rfl | rfl <;> rfl
def vI : Int32 → Option Value := fun r => some (.int r)
def vV : Int32 → Option Value := fun _ => none
/-- a method's contract: what its model answers, the machine answers -/
def Ct (l : Launch) (D : va_G) (tys : List (ClassId × FieldType)) (kw : KS → va_W) (A : Nat → Prop) (y : MethodName) (cc : ByteArray) (nL : Nat) (ret : Option FieldType) (d : Nat) (vo : Int32 → Option Value) (av : List Value) (σ : KS) (k : KR) : Prop :=
  ∀ r σ', k = some (r, σ') → Met l y (wsM y cc nL ret) (rmd d) (kPc D tys kw av σ) (kQ D kw A vo r σ') 0 0 A
def CX (p : Program) (s : State) (m : MethodId) (args : Array Value) (meth : Method) (c : Code) (cc : ByteArray) (nL : Nat) (own : String) (D : va_G) (tys : List (ClassId × FieldType)) (kw : KS → va_W) (A : Nat → Prop) (ret : Option FieldType) : Prop :=
  CallFix p m c cc nL s args wA own ∧ va_K D vwCl tys s ∧ nst s ∧ (∀ σ, va_D A (kw σ)) ∧ meth.locks = false ∧ meth.sig.returnType = ret
def Cr (p : Program) (l : Launch) (e : Env) (R : Room) (s : State) (m : MethodId) (args : Array Value) (below : List Frame) (meth : Method) (c : Code) (nL : Nat) (D : va_G) (kw : KS → va_W) (A : Nat → Prop) (vo : Int32 → Option Value) (pc : Nat) (lv : List (Nat × Value)) (st : List Value) (σ : KS) (k : KR) : Prop :=
  ∀ (ls : Array Slot) (H : Heap) (locs : List Loc), lv_has ls nL lv → va_P D vwCl (kw σ) H → va_S A s.heap H locs → ∀ r σ', k = some (r, σ') → W p l e R s m args below meth c H locs 0 0 (MQ below (kQ D kw A vo r σ') args s 0 0 A) (F0 m pc ls st)
section CRR
variable {p : Program} {l : Launch} {e : Env} {R : Room} {s : State} {m : MethodId} {args : Array Value} {below : List Frame} {meth : Method} {c : Code} {cc : ByteArray} {nL : Nat} {own : String} {D : va_G} {tys : List (ClassId × FieldType)} {kw : KS → va_W} {A : Nat → Prop} {ret : Option FieldType} {vo : Int32 → Option Value}
variable {pc : Nat} {lv : List (Nat × Value)} {st : List Value} {σ : KS} {k : KR}
theorem Ct.of {y : MethodName} {d : Nat} {av : List Value} (hJ : ∀ σ, va_D A (kw σ)) (hy : plainName y.cls = true) (hown : y.cls = own) (hn : (lg_sl av).length ≤ nL)
    (body : ∀ (p : Program) (e : Env) (s : State) (m : MethodId) (args : Array Value) (below : List Frame) (meth : Method) (c : Code), CX p s m args meth c cc nL own D tys kw A ret → Cr p l e (rmd d) s m args below meth c nL D kw A vo 0 (lv_args 0 av) [] σ k) :
    Ct l D tys kw A y cc nL ret d vo av σ k := by
  subst hown
  intro r σ' hk
  refine Met.ofW (cc := cc) (maxL := nL) (ret := ret) hy rfl ?_
  intro p e s m args below meth c s₁ B hml hv
  obtain ⟨rfl, hP, hK, hN⟩ := hv
  have hts := atoms_spec (ws := wsM y cc nL ret) B.pre
  have X : CX p s m av.toArray meth c cc nL y.cls D tys kw A ret := ⟨⟨B.exec, B.bytes, hml, findClass_of_methodNamed B.named, fun w h => hts w (List.mem_cons_of_mem _ h)⟩, hK, hN, hJ, B.notSynchronized, B.returns⟩
  rw [lg_entry_eq]
  exact body p e s m av.toArray below meth c X _ s.heap [] (lv_entry av hn) hP va_S.rf r σ' hk
theorem r_ite {P : Prop} [Decidable P] {k1 k2 : KR} (h1 : P → Cr p l e R s m args below meth c nL D kw A vo pc lv st σ k1) (h2 : ¬ P → Cr p l e R s m args below meth c nL D kw A vo pc lv st σ k2) : Cr p l e R s m args below meth c nL D kw A vo pc lv st σ (if P then k1 else k2) := by
  by_cases hp : P
  · rw [if_pos hp]; exact h1 hp
  · rw [if_neg hp]; exact h2 hp
theorem r_none : Cr p l e R s m args below meth c nL D kw A vo pc lv st σ none := fun _ _ _ _ _ _ _ _ h => by cases h
theorem r_sub (ks : List Nat) {lv' : List (Nat × Value)} (hl : lv_pick lv ks = lv') (h : Cr p l e R s m args below meth c nL D kw A vo pc lv' st σ k) : Cr p l e R s m args below meth c nL D kw A vo pc lv st σ k :=
  fun ls H locs hl0 hP hS r σ' hk => h ls H locs (lv_sub hl0 ks hl) hP hS r σ' hk
theorem r_iload_n (X : CX p s m args meth c cc nL own D tys kw A ret) {i j : Nat} {x : Int32} {kk : Fin 4} (hdg : decode cc pc = .ok (.iload_n kk, 1)) (hi : (kk : Nat) = i) (hj : lv[j]? = some (i, .int x)) (h : Cr p l e R s m args below meth c nL D kw A vo (pc + 1) lv (.int x :: st) σ k) : Cr p l e R s m args below meth c nL D kw A vo pc lv (st) σ k :=
  fun ls H locs hl hP hS r σ' hk => lv_iload_n X.1.1 X.1.2.1 hdg hi (lv_at hl j hj) (h ls H locs hl hP hS r σ' hk)
theorem r_iload (X : CX p s m args meth c cc nL own D tys kw A ret) {i j : Nat} {x : Int32} (hdg : decode cc pc = .ok (.iload i, 2)) (hj : lv[j]? = some (i, .int x)) (h : Cr p l e R s m args below meth c nL D kw A vo (pc + 2) lv (.int x :: st) σ k) : Cr p l e R s m args below meth c nL D kw A vo pc lv (st) σ k :=
  fun ls H locs hl hP hS r σ' hk => lv_iload X.1.1 X.1.2.1 hdg (lv_at hl j hj) (h ls H locs hl hP hS r σ' hk)
theorem r_aload_n (X : CX p s m args meth c cc nL own D tys kw A ret) {i j x : Nat} {kk : Fin 4} (hdg : decode cc pc = .ok (.aload_n kk, 1)) (hi : (kk : Nat) = i) (hj : lv[j]? = some (i, .ref x)) (h : Cr p l e R s m args below meth c nL D kw A vo (pc + 1) lv (.ref x :: st) σ k) : Cr p l e R s m args below meth c nL D kw A vo pc lv (st) σ k :=
  fun ls H locs hl hP hS r σ' hk => lv_aload_n X.1.1 X.1.2.1 hdg hi (lv_at hl j hj) (h ls H locs hl hP hS r σ' hk)
theorem r_lload_n (X : CX p s m args meth c cc nL own D tys kw A ret) {i j : Nat} {x : Int64} {kk : Fin 4} (hdg : decode cc pc = .ok (.lload_n kk, 1)) (hi : (kk : Nat) = i) (hj : lv[j]? = some (i, .long x)) (h : Cr p l e R s m args below meth c nL D kw A vo (pc + 1) lv (.long x :: st) σ k) : Cr p l e R s m args below meth c nL D kw A vo pc lv (st) σ k :=
  fun ls H locs hl hP hS r σ' hk => lv_lload_n X.1.1 X.1.2.1 hdg hi (lv_at hl j hj) (h ls H locs hl hP hS r σ' hk)
theorem r_iconst (X : CX p s m args meth c cc nL own D tys kw A ret) {n : Int} {v : Int32} (hdg : decode cc pc = .ok (.iconst n, 1)) (hv : Int32.ofInt n = v) (h : Cr p l e R s m args below meth c nL D kw A vo (pc + 1) lv (.int v :: st) σ k) : Cr p l e R s m args below meth c nL D kw A vo pc lv (st) σ k :=
  fun ls H locs hl hP hS r σ' hk => lv_iconst X.1.1 X.1.2.1 hdg hv (h ls H locs hl hP hS r σ' hk)
theorem r_lconst (X : CX p s m args meth c cc nL own D tys kw A ret) {n : Fin 2} {v : Int64} (hdg : decode cc pc = .ok (.lconst n, 1)) (hv : Int64.ofNat (n : Nat) = v) (h : Cr p l e R s m args below meth c nL D kw A vo (pc + 1) lv (.long v :: st) σ k) : Cr p l e R s m args below meth c nL D kw A vo pc lv (st) σ k :=
  fun ls H locs hl hP hS r σ' hk => lv_lconst X.1.1 X.1.2.1 hdg hv (h ls H locs hl hP hS r σ' hk)
theorem r_bipush (X : CX p s m args meth c cc nL own D tys kw A ret) {n : Int} {v : Int32} (hdg : decode cc pc = .ok (.bipush n, 2)) (hv : (Int8.ofInt n).toInt32 = v) (h : Cr p l e R s m args below meth c nL D kw A vo (pc + 2) lv (.int v :: st) σ k) : Cr p l e R s m args below meth c nL D kw A vo pc lv (st) σ k :=
  fun ls H locs hl hP hS r σ' hk => lv_bipush X.1.1 X.1.2.1 hdg hv (h ls H locs hl hP hS r σ' hk)
theorem r_sipush (X : CX p s m args meth c cc nL own D tys kw A ret) {n : Int} {v : Int32} (hdg : decode cc pc = .ok (.sipush n, 3)) (hv : (Int16.ofInt n).toInt32 = v) (h : Cr p l e R s m args below meth c nL D kw A vo (pc + 3) lv (.int v :: st) σ k) : Cr p l e R s m args below meth c nL D kw A vo pc lv (st) σ k :=
  fun ls H locs hl hP hS r σ' hk => lv_sipush X.1.1 X.1.2.1 hdg hv (h ls H locs hl hP hS r σ' hk)
theorem r_ldcw (X : CX p s m args meth c cc nL own D tys kw A ret) {ix : Nat} {v : Int32} (hm : Cond.constant own ix v ∈ wA) (hdg : decode cc pc = .ok (.ldc_w ix, 3)) (h : Cr p l e R s m args below meth c nL D kw A vo (pc + 3) lv (.int v :: st) σ k) : Cr p l e R s m args below meth c nL D kw A vo pc lv (st) σ k :=
  fun ls H locs hl hP hS r σ' hk => lv_ldcw X.1.1 X.1.2.1 X.1.2.2.2.1 (X.1.2.2.2.2 _ hm) hdg (h ls H locs hl hP hS r σ' hk)
theorem r_ldc2 (X : CX p s m args meth c cc nL own D tys kw A ret) {ix : Nat} {v : Int64} (hm : Cond.constantLong own ix v ∈ wA) (hdg : decode cc pc = .ok (.ldc2_w ix, 3)) (h : Cr p l e R s m args below meth c nL D kw A vo (pc + 3) lv (.long v :: st) σ k) : Cr p l e R s m args below meth c nL D kw A vo pc lv (st) σ k :=
  fun ls H locs hl hP hS r σ' hk => lv_ldc2 X.1.1 X.1.2.1 X.1.2.2.2.1 (X.1.2.2.2.2 _ hm) hdg (h ls H locs hl hP hS r σ' hk)
theorem r_iadd (X : CX p s m args meth c cc nL own D tys kw A ret) {x y : Int32} (hdg : decode cc pc = .ok (.iadd, 1)) (h : Cr p l e R s m args below meth c nL D kw A vo (pc + 1) lv (.int (x + y) :: st) σ k) : Cr p l e R s m args below meth c nL D kw A vo pc lv (.int y :: .int x :: st) σ k :=
  fun ls H locs hl hP hS r σ' hk => lv_iadd X.1.1 X.1.2.1 hdg (h ls H locs hl hP hS r σ' hk)
theorem r_isub (X : CX p s m args meth c cc nL own D tys kw A ret) {x y : Int32} (hdg : decode cc pc = .ok (.isub, 1)) (h : Cr p l e R s m args below meth c nL D kw A vo (pc + 1) lv (.int (x - y) :: st) σ k) : Cr p l e R s m args below meth c nL D kw A vo pc lv (.int y :: .int x :: st) σ k :=
  fun ls H locs hl hP hS r σ' hk => lv_isub X.1.1 X.1.2.1 hdg (h ls H locs hl hP hS r σ' hk)
theorem r_imul (X : CX p s m args meth c cc nL own D tys kw A ret) {x y : Int32} (hdg : decode cc pc = .ok (.imul, 1)) (h : Cr p l e R s m args below meth c nL D kw A vo (pc + 1) lv (.int (x * y) :: st) σ k) : Cr p l e R s m args below meth c nL D kw A vo pc lv (.int y :: .int x :: st) σ k :=
  fun ls H locs hl hP hS r σ' hk => lv_imul X.1.1 X.1.2.1 hdg (h ls H locs hl hP hS r σ' hk)
theorem r_iand (X : CX p s m args meth c cc nL own D tys kw A ret) {x y : Int32} (hdg : decode cc pc = .ok (.iand, 1)) (h : Cr p l e R s m args below meth c nL D kw A vo (pc + 1) lv (.int (x &&& y) :: st) σ k) : Cr p l e R s m args below meth c nL D kw A vo pc lv (.int y :: .int x :: st) σ k :=
  fun ls H locs hl hP hS r σ' hk => lv_iand X.1.1 X.1.2.1 hdg (h ls H locs hl hP hS r σ' hk)
theorem r_ior (X : CX p s m args meth c cc nL own D tys kw A ret) {x y : Int32} (hdg : decode cc pc = .ok (.ior, 1)) (h : Cr p l e R s m args below meth c nL D kw A vo (pc + 1) lv (.int (x ||| y) :: st) σ k) : Cr p l e R s m args below meth c nL D kw A vo pc lv (.int y :: .int x :: st) σ k :=
  fun ls H locs hl hP hS r σ' hk => lv_ior X.1.1 X.1.2.1 hdg (h ls H locs hl hP hS r σ' hk)
theorem r_ixor (X : CX p s m args meth c cc nL own D tys kw A ret) {x y : Int32} (hdg : decode cc pc = .ok (.ixor, 1)) (h : Cr p l e R s m args below meth c nL D kw A vo (pc + 1) lv (.int (x ^^^ y) :: st) σ k) : Cr p l e R s m args below meth c nL D kw A vo pc lv (.int y :: .int x :: st) σ k :=
  fun ls H locs hl hP hS r σ' hk => lv_ixor X.1.1 X.1.2.1 hdg (h ls H locs hl hP hS r σ' hk)
theorem r_ishl (X : CX p s m args meth c cc nL own D tys kw A ret) {x y : Int32} (hdg : decode cc pc = .ok (.ishl, 1)) (h : Cr p l e R s m args below meth c nL D kw A vo (pc + 1) lv (.int (x <<< (y &&& 31)) :: st) σ k) : Cr p l e R s m args below meth c nL D kw A vo pc lv (.int y :: .int x :: st) σ k :=
  fun ls H locs hl hP hS r σ' hk => lv_ishl X.1.1 X.1.2.1 hdg (h ls H locs hl hP hS r σ' hk)
theorem r_ishr (X : CX p s m args meth c cc nL own D tys kw A ret) {x y : Int32} (hdg : decode cc pc = .ok (.ishr, 1)) (h : Cr p l e R s m args below meth c nL D kw A vo (pc + 1) lv (.int (x >>> (y &&& 31)) :: st) σ k) : Cr p l e R s m args below meth c nL D kw A vo pc lv (.int y :: .int x :: st) σ k :=
  fun ls H locs hl hP hS r σ' hk => lv_ishr X.1.1 X.1.2.1 hdg (h ls H locs hl hP hS r σ' hk)
theorem r_iushr (X : CX p s m args meth c cc nL own D tys kw A ret) {x y : Int32} (hdg : decode cc pc = .ok (.iushr, 1)) (h : Cr p l e R s m args below meth c nL D kw A vo (pc + 1) lv (.int ((x.toUInt32 >>> (y.toUInt32 &&& Int32.toUInt32 31)).toInt32) :: st) σ k) : Cr p l e R s m args below meth c nL D kw A vo pc lv (.int y :: .int x :: st) σ k :=
  fun ls H locs hl hP hS r σ' hk => lv_iushr X.1.1 X.1.2.1 hdg rfl (h ls H locs hl hP hS r σ' hk)
theorem r_idiv (X : CX p s m args meth c cc nL own D tys kw A ret) {x y : Int32} (hdg : decode cc pc = .ok (.idiv, 1)) (hne : ¬ y = 0) (h : Cr p l e R s m args below meth c nL D kw A vo (pc + 1) lv (.int (x / y) :: st) σ k) : Cr p l e R s m args below meth c nL D kw A vo pc lv (.int y :: .int x :: st) σ k :=
  fun ls H locs hl hP hS r σ' hk => lv_idiv X.1.1 X.1.2.1 hdg hne (h ls H locs hl hP hS r σ' hk)
theorem r_irem (X : CX p s m args meth c cc nL own D tys kw A ret) {x y : Int32} (hdg : decode cc pc = .ok (.irem, 1)) (hne : ¬ y = 0) (h : Cr p l e R s m args below meth c nL D kw A vo (pc + 1) lv (.int (x - x / y * y) :: st) σ k) : Cr p l e R s m args below meth c nL D kw A vo pc lv (.int y :: .int x :: st) σ k :=
  fun ls H locs hl hP hS r σ' hk => lv_irem X.1.1 X.1.2.1 hdg hne (h ls H locs hl hP hS r σ' hk)
theorem r_ineg (X : CX p s m args meth c cc nL own D tys kw A ret) {x : Int32} (hdg : decode cc pc = .ok (.ineg, 1)) (h : Cr p l e R s m args below meth c nL D kw A vo (pc + 1) lv (.int (-x) :: st) σ k) : Cr p l e R s m args below meth c nL D kw A vo pc lv (.int x :: st) σ k :=
  fun ls H locs hl hP hS r σ' hk => lv_ineg X.1.1 X.1.2.1 hdg (h ls H locs hl hP hS r σ' hk)
theorem r_i2l (X : CX p s m args meth c cc nL own D tys kw A ret) {x : Int32} (hdg : decode cc pc = .ok (.i2l, 1)) (h : Cr p l e R s m args below meth c nL D kw A vo (pc + 1) lv (.long x.toInt64 :: st) σ k) : Cr p l e R s m args below meth c nL D kw A vo pc lv (.int x :: st) σ k :=
  fun ls H locs hl hP hS r σ' hk => lv_i2l X.1.1 X.1.2.1 hdg rfl (h ls H locs hl hP hS r σ' hk)
theorem r_l2i (X : CX p s m args meth c cc nL own D tys kw A ret) {x : Int64} (hdg : decode cc pc = .ok (.l2i, 1)) (h : Cr p l e R s m args below meth c nL D kw A vo (pc + 1) lv (.int x.toInt32 :: st) σ k) : Cr p l e R s m args below meth c nL D kw A vo pc lv (.long x :: st) σ k :=
  fun ls H locs hl hP hS r σ' hk => lv_l2i X.1.1 X.1.2.1 hdg rfl (h ls H locs hl hP hS r σ' hk)
theorem r_ladd (X : CX p s m args meth c cc nL own D tys kw A ret) {x y : Int64} (hdg : decode cc pc = .ok (.ladd, 1)) (h : Cr p l e R s m args below meth c nL D kw A vo (pc + 1) lv (.long (x + y) :: st) σ k) : Cr p l e R s m args below meth c nL D kw A vo pc lv (.long y :: .long x :: st) σ k :=
  fun ls H locs hl hP hS r σ' hk => lv_ladd X.1.1 X.1.2.1 hdg (h ls H locs hl hP hS r σ' hk)
theorem r_lcmp (X : CX p s m args meth c cc nL own D tys kw A ret) {x y : Int64} (hdg : decode cc pc = .ok (.lcmp, 1)) (h : Cr p l e R s m args below meth c nL D kw A vo (pc + 1) lv (.int (lg_cmp x y) :: st) σ k) : Cr p l e R s m args below meth c nL D kw A vo pc lv (.long y :: .long x :: st) σ k :=
  fun ls H locs hl hP hS r σ' hk => W.lcmp X.1.1 X.1.2.1 hdg (h ls H locs hl hP hS r σ' hk)
theorem r_dup (X : CX p s m args meth c cc nL own D tys kw A ret) {v : Value} (hdg : decode cc pc = .ok (.dup, 1)) (hv : v.category = 1) (h : Cr p l e R s m args below meth c nL D kw A vo (pc + 1) lv (v :: v :: st) σ k) : Cr p l e R s m args below meth c nL D kw A vo pc lv (v :: st) σ k :=
  fun ls H locs hl hP hS r σ' hk => lv_dup X.1.1 X.1.2.1 hdg hv (h ls H locs hl hP hS r σ' hk)
theorem r_dup2 (X : CX p s m args meth c cc nL own D tys kw A ret) {v w : Value} (hdg : decode cc pc = .ok (.dup2, 1)) (hv : v.category = 1) (hw : w.category = 1) (h : Cr p l e R s m args below meth c nL D kw A vo (pc + 1) lv (v :: w :: v :: w :: st) σ k) : Cr p l e R s m args below meth c nL D kw A vo pc lv (v :: w :: st) σ k :=
  fun ls H locs hl hP hS r σ' hk => lv_dup2_11 X.1.1 X.1.2.1 hdg hv hw (h ls H locs hl hP hS r σ' hk)
theorem r_pop (X : CX p s m args meth c cc nL own D tys kw A ret) {v : Value} (hdg : decode cc pc = .ok (.pop, 1)) (hv : v.category = 1) (h : Cr p l e R s m args below meth c nL D kw A vo (pc + 1) lv (st) σ k) : Cr p l e R s m args below meth c nL D kw A vo pc lv (v :: st) σ k :=
  fun ls H locs hl hP hS r σ' hk => lv_pop X.1.1 X.1.2.1 hdg hv (h ls H locs hl hP hS r σ' hk)
theorem r_goto (X : CX p s m args meth c cc nL own D tys kw A ret) {off : Int} {tgt : Nat} (hdg : decode cc pc = .ok (.goto off, 3)) (ht : (pc : Int) + off = (tgt : Int)) (h : Cr p l e R s m args below meth c nL D kw A vo (tgt) lv (st) σ k) : Cr p l e R s m args below meth c nL D kw A vo pc lv (st) σ k :=
  fun ls H locs hl hP hS r σ' hk => lv_goto X.1.1 X.1.2.1 hdg ht (h ls H locs hl hP hS r σ' hk)
theorem r_istore_n (X : CX p s m args meth c cc nL own D tys kw A ret) {lv' : List (Nat × Value)} {i : Nat} {x : Int32} {kk : Fin 4} (hdg : decode cc pc = .ok (.istore_n kk, 1)) (hi : (kk : Nat) = i) (hn : i < nL) (hl9 : (i, Value.int x) :: lv.filter (fun q => !(q.1 == i) && !(q.1 + 1 == i && q.2.category == 2)) = lv') (h : Cr p l e R s m args below meth c nL D kw A vo (pc + 1) lv' st σ k) : Cr p l e R s m args below meth c nL D kw A vo pc lv (.int x :: st) σ k :=
  fun ls H locs hl hP hS r σ' hk => lv_istore_n X.1.1 X.1.2.1 hdg hi hl hn hl9 (fun ls' hl' => h ls' H locs hl' hP hS r σ' hk)
theorem r_istore (X : CX p s m args meth c cc nL own D tys kw A ret) {lv' : List (Nat × Value)} {i : Nat} {x : Int32} (hdg : decode cc pc = .ok (.istore i, 2)) (hn : i < nL) (hl9 : (i, Value.int x) :: lv.filter (fun q => !(q.1 == i) && !(q.1 + 1 == i && q.2.category == 2)) = lv') (h : Cr p l e R s m args below meth c nL D kw A vo (pc + 2) lv' st σ k) : Cr p l e R s m args below meth c nL D kw A vo pc lv (.int x :: st) σ k :=
  fun ls H locs hl hP hS r σ' hk => lv_istore X.1.1 X.1.2.1 hdg hl hn hl9 (fun ls' hl' => h ls' H locs hl' hP hS r σ' hk)
theorem r_lstore_n (X : CX p s m args meth c cc nL own D tys kw A ret) {lv' : List (Nat × Value)} {i : Nat} {x : Int64} {kk : Fin 4} (hdg : decode cc pc = .ok (.lstore_n kk, 1)) (hi : (kk : Nat) = i) (hn : i + 1 < nL) (hl9 : (i, Value.long x) :: lv.filter (fun q => !(q.1 == i) && (!(q.1 == i + 1) && !(q.1 + 1 == i && q.2.category == 2))) = lv') (h : Cr p l e R s m args below meth c nL D kw A vo (pc + 1) lv' st σ k) : Cr p l e R s m args below meth c nL D kw A vo pc lv (.long x :: st) σ k :=
  fun ls H locs hl hP hS r σ' hk => lv_lstore_n X.1.1 X.1.2.1 hdg hi hl hn hl9 (fun ls' hl' => h ls' H locs hl' hP hS r σ' hk)
theorem r_iinc (X : CX p s m args meth c cc nL own D tys kw A ret) {lv' : List (Nat × Value)} {i j : Nat} {n : Int} {x v : Int32} (hdg : decode cc pc = .ok (.iinc i n, 3)) (hj : lv[j]? = some (i, .int x)) (hv : x + Int32.ofInt n = v) (hn : i < nL) (hl9 : (i, Value.int v) :: lv.filter (fun q => !(q.1 == i) && !(q.1 + 1 == i && q.2.category == 2)) = lv') (h : Cr p l e R s m args below meth c nL D kw A vo (pc + 3) lv' st σ k) : Cr p l e R s m args below meth c nL D kw A vo pc lv (st) σ k :=
  fun ls H locs hl hP hS r σ' hk => lv_iinc X.1.1 X.1.2.1 hdg hl hj hv hn hl9 (fun ls' hl' => h ls' H locs hl' hP hS r σ' hk)
theorem r_icmp_eq (X : CX p s m args meth c cc nL own D tys kw A ret) {x y : Int32} {off : Int} {tgt : Nat} {k1 k2 : KR} (hdg : decode cc pc = .ok (.if_icmp .eq off, 3)) (ht : (pc : Int) + off = (tgt : Int)) (h1 : (x = y) → Cr p l e R s m args below meth c nL D kw A vo tgt lv st σ k1) (h2 : ¬ (x = y) → Cr p l e R s m args below meth c nL D kw A vo (pc + 3) lv st σ k2) : Cr p l e R s m args below meth c nL D kw A vo pc lv (.int y :: .int x :: st) σ (if x = y then k1 else k2) :=
  fun ls H locs hl hP hS r σ' hk => lv_icmp_eq X.1.1 X.1.2.1 hdg ht (fun q => h1 q ls H locs hl hP hS r σ' ((if_pos q).symm.trans hk)) (fun q => h2 q ls H locs hl hP hS r σ' ((if_neg q).symm.trans hk))
theorem r_if_eq (X : CX p s m args meth c cc nL own D tys kw A ret) {x : Int32} {off : Int} {tgt : Nat} {k1 k2 : KR} (hdg : decode cc pc = .ok (.ifCond .eq off, 3)) (ht : (pc : Int) + off = (tgt : Int)) (h1 : (x = 0) → Cr p l e R s m args below meth c nL D kw A vo tgt lv st σ k1) (h2 : ¬ (x = 0) → Cr p l e R s m args below meth c nL D kw A vo (pc + 3) lv st σ k2) : Cr p l e R s m args below meth c nL D kw A vo pc lv (.int x :: st) σ (if x = 0 then k1 else k2) :=
  fun ls H locs hl hP hS r σ' hk => lv_if_eq X.1.1 X.1.2.1 hdg ht (fun q => h1 q ls H locs hl hP hS r σ' ((if_pos q).symm.trans hk)) (fun q => h2 q ls H locs hl hP hS r σ' ((if_neg q).symm.trans hk))
theorem r_icmp_lt (X : CX p s m args meth c cc nL own D tys kw A ret) {x y : Int32} {off : Int} {tgt : Nat} {k1 k2 : KR} (hdg : decode cc pc = .ok (.if_icmp .lt off, 3)) (ht : (pc : Int) + off = (tgt : Int)) (h1 : (x < y) → Cr p l e R s m args below meth c nL D kw A vo tgt lv st σ k1) (h2 : ¬ (x < y) → Cr p l e R s m args below meth c nL D kw A vo (pc + 3) lv st σ k2) : Cr p l e R s m args below meth c nL D kw A vo pc lv (.int y :: .int x :: st) σ (if x < y then k1 else k2) :=
  fun ls H locs hl hP hS r σ' hk => lv_icmp_lt X.1.1 X.1.2.1 hdg ht (fun q => h1 q ls H locs hl hP hS r σ' ((if_pos q).symm.trans hk)) (fun q => h2 q ls H locs hl hP hS r σ' ((if_neg q).symm.trans hk))
theorem r_if_lt (X : CX p s m args meth c cc nL own D tys kw A ret) {x : Int32} {off : Int} {tgt : Nat} {k1 k2 : KR} (hdg : decode cc pc = .ok (.ifCond .lt off, 3)) (ht : (pc : Int) + off = (tgt : Int)) (h1 : (x < 0) → Cr p l e R s m args below meth c nL D kw A vo tgt lv st σ k1) (h2 : ¬ (x < 0) → Cr p l e R s m args below meth c nL D kw A vo (pc + 3) lv st σ k2) : Cr p l e R s m args below meth c nL D kw A vo pc lv (.int x :: st) σ (if x < 0 then k1 else k2) :=
  fun ls H locs hl hP hS r σ' hk => lv_if_lt X.1.1 X.1.2.1 hdg ht (fun q => h1 q ls H locs hl hP hS r σ' ((if_pos q).symm.trans hk)) (fun q => h2 q ls H locs hl hP hS r σ' ((if_neg q).symm.trans hk))
theorem r_icmp_ge (X : CX p s m args meth c cc nL own D tys kw A ret) {x y : Int32} {off : Int} {tgt : Nat} {k1 k2 : KR} (hdg : decode cc pc = .ok (.if_icmp .ge off, 3)) (ht : (pc : Int) + off = (tgt : Int)) (h1 : (y ≤ x) → Cr p l e R s m args below meth c nL D kw A vo tgt lv st σ k1) (h2 : ¬ (y ≤ x) → Cr p l e R s m args below meth c nL D kw A vo (pc + 3) lv st σ k2) : Cr p l e R s m args below meth c nL D kw A vo pc lv (.int y :: .int x :: st) σ (if y ≤ x then k1 else k2) :=
  fun ls H locs hl hP hS r σ' hk => lv_icmp_ge X.1.1 X.1.2.1 hdg ht (fun q => h1 q ls H locs hl hP hS r σ' ((if_pos q).symm.trans hk)) (fun q => h2 q ls H locs hl hP hS r σ' ((if_neg q).symm.trans hk))
theorem r_if_ge (X : CX p s m args meth c cc nL own D tys kw A ret) {x : Int32} {off : Int} {tgt : Nat} {k1 k2 : KR} (hdg : decode cc pc = .ok (.ifCond .ge off, 3)) (ht : (pc : Int) + off = (tgt : Int)) (h1 : (0 ≤ x) → Cr p l e R s m args below meth c nL D kw A vo tgt lv st σ k1) (h2 : ¬ (0 ≤ x) → Cr p l e R s m args below meth c nL D kw A vo (pc + 3) lv st σ k2) : Cr p l e R s m args below meth c nL D kw A vo pc lv (.int x :: st) σ (if 0 ≤ x then k1 else k2) :=
  fun ls H locs hl hP hS r σ' hk => lv_if_ge X.1.1 X.1.2.1 hdg ht (fun q => h1 q ls H locs hl hP hS r σ' ((if_pos q).symm.trans hk)) (fun q => h2 q ls H locs hl hP hS r σ' ((if_neg q).symm.trans hk))
theorem r_icmp_gt (X : CX p s m args meth c cc nL own D tys kw A ret) {x y : Int32} {off : Int} {tgt : Nat} {k1 k2 : KR} (hdg : decode cc pc = .ok (.if_icmp .gt off, 3)) (ht : (pc : Int) + off = (tgt : Int)) (h1 : (y < x) → Cr p l e R s m args below meth c nL D kw A vo tgt lv st σ k1) (h2 : ¬ (y < x) → Cr p l e R s m args below meth c nL D kw A vo (pc + 3) lv st σ k2) : Cr p l e R s m args below meth c nL D kw A vo pc lv (.int y :: .int x :: st) σ (if y < x then k1 else k2) :=
  fun ls H locs hl hP hS r σ' hk => lv_icmp_gt X.1.1 X.1.2.1 hdg ht (fun q => h1 q ls H locs hl hP hS r σ' ((if_pos q).symm.trans hk)) (fun q => h2 q ls H locs hl hP hS r σ' ((if_neg q).symm.trans hk))
theorem r_if_gt (X : CX p s m args meth c cc nL own D tys kw A ret) {x : Int32} {off : Int} {tgt : Nat} {k1 k2 : KR} (hdg : decode cc pc = .ok (.ifCond .gt off, 3)) (ht : (pc : Int) + off = (tgt : Int)) (h1 : (0 < x) → Cr p l e R s m args below meth c nL D kw A vo tgt lv st σ k1) (h2 : ¬ (0 < x) → Cr p l e R s m args below meth c nL D kw A vo (pc + 3) lv st σ k2) : Cr p l e R s m args below meth c nL D kw A vo pc lv (.int x :: st) σ (if 0 < x then k1 else k2) :=
  fun ls H locs hl hP hS r σ' hk => lv_if_gt X.1.1 X.1.2.1 hdg ht (fun q => h1 q ls H locs hl hP hS r σ' ((if_pos q).symm.trans hk)) (fun q => h2 q ls H locs hl hP hS r σ' ((if_neg q).symm.trans hk))
theorem r_icmp_le (X : CX p s m args meth c cc nL own D tys kw A ret) {x y : Int32} {off : Int} {tgt : Nat} {k1 k2 : KR} (hdg : decode cc pc = .ok (.if_icmp .le off, 3)) (ht : (pc : Int) + off = (tgt : Int)) (h1 : (x ≤ y) → Cr p l e R s m args below meth c nL D kw A vo tgt lv st σ k1) (h2 : ¬ (x ≤ y) → Cr p l e R s m args below meth c nL D kw A vo (pc + 3) lv st σ k2) : Cr p l e R s m args below meth c nL D kw A vo pc lv (.int y :: .int x :: st) σ (if x ≤ y then k1 else k2) :=
  fun ls H locs hl hP hS r σ' hk => lv_icmp_le X.1.1 X.1.2.1 hdg ht (fun q => h1 q ls H locs hl hP hS r σ' ((if_pos q).symm.trans hk)) (fun q => h2 q ls H locs hl hP hS r σ' ((if_neg q).symm.trans hk))
theorem r_if_le (X : CX p s m args meth c cc nL own D tys kw A ret) {x : Int32} {off : Int} {tgt : Nat} {k1 k2 : KR} (hdg : decode cc pc = .ok (.ifCond .le off, 3)) (ht : (pc : Int) + off = (tgt : Int)) (h1 : (x ≤ 0) → Cr p l e R s m args below meth c nL D kw A vo tgt lv st σ k1) (h2 : ¬ (x ≤ 0) → Cr p l e R s m args below meth c nL D kw A vo (pc + 3) lv st σ k2) : Cr p l e R s m args below meth c nL D kw A vo pc lv (.int x :: st) σ (if x ≤ 0 then k1 else k2) :=
  fun ls H locs hl hP hS r σ' hk => lv_if_le X.1.1 X.1.2.1 hdg ht (fun q => h1 q ls H locs hl hP hS r σ' ((if_pos q).symm.trans hk)) (fun q => h2 q ls H locs hl hP hS r σ' ((if_neg q).symm.trans hk))
theorem r_icmp_ne (X : CX p s m args meth c cc nL own D tys kw A ret) {x y : Int32} {off : Int} {tgt : Nat} {k1 k2 : KR} (hdg : decode cc pc = .ok (.if_icmp .ne off, 3)) (ht : (pc : Int) + off = (tgt : Int)) (h1 : (x = y) → Cr p l e R s m args below meth c nL D kw A vo (pc + 3) lv st σ k1) (h2 : ¬ (x = y) → Cr p l e R s m args below meth c nL D kw A vo tgt lv st σ k2) : Cr p l e R s m args below meth c nL D kw A vo pc lv (.int y :: .int x :: st) σ (if x = y then k1 else k2) :=
  fun ls H locs hl hP hS r σ' hk => lv_icmp_ne X.1.1 X.1.2.1 hdg ht (fun q => h2 q ls H locs hl hP hS r σ' ((if_neg q).symm.trans hk)) (fun q => h1 q ls H locs hl hP hS r σ' ((if_pos q).symm.trans hk))
theorem r_if_ne (X : CX p s m args meth c cc nL own D tys kw A ret) {x : Int32} {off : Int} {tgt : Nat} {k1 k2 : KR} (hdg : decode cc pc = .ok (.ifCond .ne off, 3)) (ht : (pc : Int) + off = (tgt : Int)) (h1 : (x = 0) → Cr p l e R s m args below meth c nL D kw A vo (pc + 3) lv st σ k1) (h2 : ¬ (x = 0) → Cr p l e R s m args below meth c nL D kw A vo tgt lv st σ k2) : Cr p l e R s m args below meth c nL D kw A vo pc lv (.int x :: st) σ (if x = 0 then k1 else k2) :=
  fun ls H locs hl hP hS r σ' hk => lv_if_ne X.1.1 X.1.2.1 hdg ht (fun q => h2 q ls H locs hl hP hS r σ' ((if_neg q).symm.trans hk)) (fun q => h1 q ls H locs hl hP hS r σ' ((if_pos q).symm.trans hk))
theorem r_t {P : Prop} [Decidable P] {k1 k2 : KR} (hp : P) (h : Cr p l e R s m args below meth c nL D kw A vo pc lv st σ (if P then k1 else k2)) : Cr p l e R s m args below meth c nL D kw A vo pc lv st σ k1 := by rw [if_pos hp] at h; exact h
theorem r_f {P : Prop} [Decidable P] {k1 k2 : KR} (hp : ¬ P) (h : Cr p l e R s m args below meth c nL D kw A vo pc lv st σ (if P then k1 else k2)) : Cr p l e R s m args below meth c nL D kw A vo pc lv st σ k2 := by rw [if_neg hp] at h; exact h
theorem r_tabIn (X : CX p s m args meth c cc nL own D tys kw A ret) {dflt lo hi : Int} {offs : Array Int} {len : Nat} {x : Int32} {off : Int} {tgt : Nat} (hdg : decode cc pc = .ok (.tableswitch dflt lo hi offs, len)) (h1 : ¬ x.toInt < lo) (h2 : ¬ hi < x.toInt) (ho : offs[(x.toInt - lo).toNat]? = some off) (ht : (pc : Int) + off = (tgt : Int)) (h : Cr p l e R s m args below meth c nL D kw A vo tgt lv st σ k) : Cr p l e R s m args below meth c nL D kw A vo pc lv (.int x :: st) σ k :=
  fun ls H locs hl hP hS r σ' hk => lv_tableIn X.1.1 X.1.2.1 hdg h1 h2 ho ht (h ls H locs hl hP hS r σ' hk)
theorem r_tabOut (X : CX p s m args meth c cc nL own D tys kw A ret) {dflt lo hi : Int} {offs : Array Int} {len : Nat} {x : Int32} {tgt : Nat} (hdg : decode cc pc = .ok (.tableswitch dflt lo hi offs, len)) (h0 : x.toInt < lo ∨ hi < x.toInt) (ht : (pc : Int) + dflt = (tgt : Int)) (h : Cr p l e R s m args below meth c nL D kw A vo tgt lv st σ k) : Cr p l e R s m args below meth c nL D kw A vo pc lv (.int x :: st) σ k :=
  fun ls H locs hl hP hS r σ' hk => lv_tableOut X.1.1 X.1.2.1 hdg h0 ht (h ls H locs hl hP hS r σ' hk)
theorem r_look (X : CX p s m args meth c cc nL own D tys kw A ret) {dflt : Int} {ps : Array (Int × Int)} {len : Nat} {x : Int32} {off : Int} {tgt : Nat} (hdg : decode cc pc = .ok (.lookupswitch dflt ps, len)) (hp : (ps.toList.zip (ps.toList.drop 1)).all (fun (a, next) => a.1 < next.1) = true) (ho : Op.lookupswitch.offset ps.toList dflt x.toInt = off) (ht : (pc : Int) + off = (tgt : Int)) (h : Cr p l e R s m args below meth c nL D kw A vo tgt lv st σ k) : Cr p l e R s m args below meth c nL D kw A vo pc lv (.int x :: st) σ k :=
  fun ls H locs hl hP hS r σ' hk => lv_lookup X.1.1 X.1.2.1 hdg hp ho ht (h ls H locs hl hP hS r σ' hk)
theorem r_iald (X : CX p s m args meth c cc nL own D tys kw A ret) {a q0 t0 kk n : Nat} {cA : ClassId} {i : Int32} (hq : (kw σ)[q0]? = some (a, .inl (cA, n, .inl (σ.1 kk)))) (ht : tys[t0]? = some (cA, .int)) (hdg : decode cc pc = .ok (.iaload, 1)) (h : Cr p l e R s m args below meth c nL D kw A vo (pc + 1) lv (.int (rd σ kk i) :: st) σ k) : Cr p l e R s m args below meth c nL D kw A vo pc lv (.int i :: .ref a :: st) σ (chk i n k) :=
  fun ls H locs hl hP hS r σ' hk => va_iald X.1.1 X.1.2.1 X.2.1 hP q0 t0 hq ht (chk_some hk).1 hdg (h ls H locs hl hP hS r σ' (chk_some hk).2)
theorem r_zald (X : CX p s m args meth c cc nL own D tys kw A ret) {a q0 t0 kk n : Nat} {cA : ClassId} {i : Int32} (hq : (kw σ)[q0]? = some (a, .inl (cA, n, .inl (σ.1 kk)))) (ht : tys[t0]? = some (cA, .boolean)) (hdg : decode cc pc = .ok (.baload, 1)) (h : Cr p l e R s m args below meth c nL D kw A vo (pc + 1) lv (.int (rd σ kk i) :: st) σ k) : Cr p l e R s m args below meth c nL D kw A vo pc lv (.int i :: .ref a :: st) σ (chk i n k) :=
  fun ls H locs hl hP hS r σ' hk => va_zald X.1.1 X.1.2.1 X.2.1 hP q0 t0 hq ht (chk_some hk).1 hdg (h ls H locs hl hP hS r σ' (chk_some hk).2)
theorem r_iast (X : CX p s m args meth c cc nL own D tys kw A ret) {a q0 t0 kk n : Nat} {cA : ClassId} {i x : Int32} (hq : (kw σ)[q0]? = some (a, .inl (cA, n, .inl (σ.1 kk)))) (hs : ∀ f, (kw σ).set q0 (a, .inl (cA, n, .inl f)) = kw (va_up σ.1 kk f, σ.2)) (ht : tys[t0]? = some (cA, .int)) (hdg : decode cc pc = .ok (.iastore, 1)) (h : Cr p l e R s m args below meth c nL D kw A vo (pc + 1) lv st (wr σ kk i x) k) : Cr p l e R s m args below meth c nL D kw A vo pc lv (.int x :: .int i :: .ref a :: st) σ (chk i n k) :=
  fun ls H locs hl hP hS r σ' hk => va_iast X.1.1 X.1.2.1 X.2.1 hP (X.2.2.2.1 σ) hS q0 t0 hq ht (chk_some hk).1 hdg (fun H1 locs1 hP1 _ hS1 => h ls H1 locs1 hl (by rw [hs] at hP1; exact hP1) hS1 r σ' (chk_some hk).2)
theorem r_zast (X : CX p s m args meth c cc nL own D tys kw A ret) {a q0 t0 kk n : Nat} {cA : ClassId} {i x : Int32} (hq : (kw σ)[q0]? = some (a, .inl (cA, n, .inl (σ.1 kk)))) (hs : ∀ f, (kw σ).set q0 (a, .inl (cA, n, .inl f)) = kw (va_up σ.1 kk f, σ.2)) (ht : tys[t0]? = some (cA, .boolean)) (hdg : decode cc pc = .ok (.bastore, 1)) (h : Cr p l e R s m args below meth c nL D kw A vo (pc + 1) lv st (wr σ kk i x) k) : Cr p l e R s m args below meth c nL D kw A vo pc lv (.int x :: .int i :: .ref a :: st) σ (chk i n (zchk x k)) :=
  fun ls H locs hl hP hS r σ' hk => va_zast X.1.1 X.1.2.1 X.2.1 hP (X.2.2.2.1 σ) hS q0 t0 hq ht (chk_some hk).1 hdg (fun H1 locs1 hP1 _ hS1 => h ls H1 locs1 hl (by rw [zn (zchk_some (chk_some hk).2).1, hs] at hP1; exact hP1) hS1 r σ' (zchk_some (chk_some hk).2).2)
theorem r_alen (X : CX p s m args meth c cc nL own D tys kw A ret) {a q0 t0 kk n : Nat} {cA : ClassId} {ty : FieldType} {v : Int32} (hq : (kw σ)[q0]? = some (a, .inl (cA, n, .inl (σ.1 kk)))) (ht : tys[t0]? = some (cA, ty)) (hv : Int32.ofNat n = v) (hdg : decode cc pc = .ok (.arraylength, 1)) (h : Cr p l e R s m args below meth c nL D kw A vo (pc + 1) lv (.int v :: st) σ k) : Cr p l e R s m args below meth c nL D kw A vo pc lv (.ref a :: st) σ k :=
  fun ls H locs hl hP hS r σ' hk => va_alen X.1.1 X.1.2.1 X.2.1 hP q0 t0 hq ht hv hdg (h ls H locs hl hP hS r σ' hk)
theorem r_get (X : CX p s m args meth c cc nL own D tys kw A ret) {C : String} {T : u_T} {N ci ix a q0 : Nat} {fs : List Value} {v : Value} (hin : ∀ w ∈ u_ws C T N, w ∈ wA) (hc : vwCl[ci]? = some (C, T, N)) (hq : (kw σ)[q0]? = some (a, .inr (ci, fs))) (kk : Nat) (hk0 : kk < N) (hv : fs[kk]? = some v) (hm : Cond.fieldLink own ix (T kk).1 (T kk).2.1 (T kk).2.2.1 ∈ wA) (hdg : decode cc pc = .ok (.getfield ix, 3)) (h : Cr p l e R s m args below meth c nL D kw A vo (pc + 3) lv (v :: st) σ k) : Cr p l e R s m args below meth c nL D kw A vo pc lv (.ref a :: st) σ k :=
  fun ls H locs hl hP hS r σ' hk => va_get X.1.1 X.1.2.1 X.1.2.2.2.2 hin X.1.2.2.2.1 X.2.1 hP q0 hq hc kk hk0 (X.1.2.2.2.2 _ hm) (fun _ h9 => h9) hv hdg (h ls H locs hl hP hS r σ' hk)
theorem r_put (X : CX p s m args meth c cc nL own D tys kw A ret) {C : String} {T : u_T} {N ci ix a q0 j : Nat} {fs : List Value} {x : Int32} {ty0 : Nat → FieldType} (hin : ∀ w ∈ u_ws C T N, w ∈ wA) (hc : vwCl[ci]? = some (C, T, N)) (hty : ∀ k, k < N → parseFieldDescriptor (T k).2.2.1 = some (ty0 k)) (hnm : ∀ a, a < N → ∀ b, b < N → a ≠ b → (T a).2.1 ≠ (T b).2.1) (hq : (kw σ)[q0]? = some (a, .inr (ci, fs))) (kk : Nat) (hk0 : kk < N) (hs : (kw σ).set q0 (a, .inr (ci, fs.set kk (.int x))) = kw (sv σ j x)) (hm : Cond.fieldLink own ix (T kk).1 (T kk).2.1 (T kk).2.2.1 ∈ wA) (hfin : (T kk).2.2.2 = false) (hd : parseFieldDescriptor (T kk).2.2.1 = some .int) (hlen : kk < fs.length) (hdg : decode cc pc = .ok (.putfield ix, 3)) (h : Cr p l e R s m args below meth c nL D kw A vo (pc + 3) lv st (sv σ j x) k) : Cr p l e R s m args below meth c nL D kw A vo pc lv (.int x :: .ref a :: st) σ k :=
  fun ls H locs hl hP hS r σ' hk => va_put X.1.1 X.1.2.1 X.1.2.2.2.2 hin ty0 hty hnm X.1.2.2.2.1 X.2.1 hP (X.2.2.2.1 σ) hS q0 hq hc kk hk0 (X.1.2.2.2.2 _ hm) (fun _ h9 => h9) hfin hd rfl rfl hlen hdg (fun H1 locs1 hP1 _ hS1 => h ls H1 locs1 hl (by rw [hs] at hP1; exact hP1) hS1 r σ' hk)
theorem r_ireturn (X : CX p s m args meth c cc nL own D tys kw A (some .int)) {x : Int32} (hdg : decode cc pc = .ok (.ireturn, 1)) : Cr p l e R s m args below meth c nL D kw A vI pc lv [.int x] σ (some (x, σ)) :=
  fun ls H locs hl hP hS r σ' hk => by
    cases hk
    exact W.iret X.1.1 X.1.2.1 X.2.2.2.2.2 (fun t ht hW => ⟨rfl, by rw [ht]; exact hP, hS.F ht⟩) hS.2.2 hdg X.2.2.2.2.1
theorem r_zreturn (X : CX p s m args meth c cc nL own D tys kw A (some .boolean)) {x : Int32} (hx : x = 0 ∨ x = 1) (hdg : decode cc pc = .ok (.ireturn, 1)) : Cr p l e R s m args below meth c nL D kw A vI pc lv [.int x] σ (some (x, σ)) :=
  fun ls H locs hl hP hS r σ' hk => by
    cases hk
    exact W.zret X.1.1 X.1.2.1 X.2.2.2.2.2 (by rcases hx with rfl | rfl <;> rfl) (fun t ht hW => ⟨rfl, by rw [ht]; exact hP, hS.F ht⟩) hS.2.2 hdg X.2.2.2.2.1
theorem r_zreturnC (X : CX p s m args meth c cc nL own D tys kw A (some .boolean)) {x : Int32} (hdg : decode cc pc = .ok (.ireturn, 1)) : Cr p l e R s m args below meth c nL D kw A vI pc lv [.int x] σ (zchk x (some (x, σ))) :=
  fun ls H locs hl hP hS r σ' hk => r_zreturn X (zchk_some hk).1 hdg ls H locs hl hP hS r σ' (zchk_some hk).2
theorem r_return (X : CX p s m args meth c cc nL own D tys kw A none) (hdg : decode cc pc = .ok (.return_, 1)) : Cr p l e R s m args below meth c nL D kw A vV pc lv [] σ (some (0, σ)) :=
  fun ls H locs hl hP hS r σ' hk => by
    cases hk
    exact W.vret X.1.1 X.1.2.1 X.2.2.2.2.2 (fun t ht hW => ⟨rfl, by rw [ht]; exact hP, hS.F ht⟩) hS.2.2 hdg X.2.2.2.2.1
theorem k_blind {av : List Value} : FrameBlind (kPc D tys kw av σ) := fun a U g mk q => ⟨q.1, q.2.1, va_K.moved (u := U) (U := U.calling g mk a) (Vm.Alike.refl U.vm) q.2.2.1, nst.same (s := U) (U := U.calling g mk a) rfl q.2.2.2⟩
theorem k_pre (X : CX p s m args meth c cc nL own D tys kw A ret) {H : Heap} (hP : va_P D vwCl (kw σ) H) {av : List Value} : ∀ U : State, U.heap = H → s.WarmedH U.vm → kPc D tys kw av σ av.toArray U :=
  fun U hU hW => ⟨rfl, by rw [hU]; exact hP, va_K.moved hW.alike X.2.1, nst.warm hW X.2.2.1⟩
theorem r_after {pc : Nat} {lv : List (Nat × Value)} {stk rest : List Value} {H : Heap} {ls : Array Slot} {locs : List Loc} {voy : Int32 → Option Value} {a1 : Int32} {σ1 : KS} {ac : Array Value} {r : Int32} {σ' : KS}
    (run : va_Run p l e R s m args below meth c H locs 0 0 0 0 (F0 m pc ls stk) rest (kQ D kw A voy a1 σ1 ac) A) (hl : lv_has ls nL lv) (hS : va_S A s.heap H locs) (hk : k = some (r, σ'))
    (h : Cr p l e R s m args below meth c nL D kw A vo (pc + 3) lv ((voy a1).toList ++ rest) σ1 k) :
    W p l e R s m args below meth c H locs 0 0 (MQ below (kQ D kw A vo r σ') args s 0 0 A) (F0 m pc ls stk) := by
  intro T hT XX
  obtain ⟨v, st₀, t, T', L, h0, X', hL, e1, e2, ⟨hv, hP1, hz, hk1⟩, stp⟩ := run T hT XX
  cases hv
  rw [h0] at hz hk1
  obtain ⟨t2, a2, b2⟩ := h ls T'.heap (locs ++ L) hl (by rw [e1]; exact hP1)
    ⟨Nat.le_trans hS.1 (by rw [e1]; exact hz), fun q h1 h2 => by rw [e1, hk1 q (Nat.lt_of_lt_of_le h1 hS.1) h2]; exact hS.2.1 q h1 h2, fun q hq => by
      rcases List.mem_append.mp hq with h | h
      · exact hS.2.2 q h
      · exact hL q h⟩ r σ' hk T' rfl X'
  exact ⟨t2, stp t2 a2, b2⟩
theorem wsM_in {y : MethodName} {cy : ByteArray} {n : Nat} {rt : Option FieldType} (h : Cond.code y cy n rt ∈ wA) : GoodIn wA (wsM y cy n rt) := by
  intro w hw
  have hm : w ∈ wA := by
    rcases List.mem_cons.mp hw with e | e
    · rw [e]; exact h
    · exact e
  exact ⟨hm, good_of_word (wA_good w hm)⟩
theorem wA_1 {w : Cond} (h : w ∈ wA) : w ∈ wA ∧ ((w.onTables && w.keeps) = true ∨ ∃ ty, w = .arrayClass ty) := ⟨h, good_of_word (wA_good w h)⟩
theorem cW {y : MethodName} {cy : ByteArray} {nLy idx n d : Nat} {rt : Option FieldType} {C : String} (hts : ∀ w ∈ wA, w.before args s = true) (h1 : Cond.methodLink own idx y ∈ wA) (h2 : Cond.instanceMethod y ∈ wA) (h3 : Cond.selects C y y ∈ wA) (h4 : Cond.initialized C ∈ wA) (h5 : Cond.code y cy nLy rt ∈ wA)
    (hd : y.cls = C ∧ y.cls ≠ "java/lang/invoke/MethodHandle" ∧ y.cls ≠ "java/lang/invoke/VarHandle" ∧ (parseMethodDescriptor y.desc).map (fun d => d.parameters.length) = some n) (hR : (rmd d).frames + 1 ≤ R.frames ∧ 8 + (nLy + 11) + (rmd d).locals ≤ R.locals) :
    CallW R s args own C idx y cy nLy rt (wsM y cy nLy rt) (rmd d) 0 0 n := by
  refine cwV n hts ?_ rfl rfl rfl hd hR
  intro w hw
  unfold wsV at hw
  rcases List.mem_append.mp hw with hw | hw
  · rcases List.mem_cons.mp hw with e | hw
    · rw [e]; exact wA_1 h1
    rcases List.mem_cons.mp hw with e | hw
    · rw [e]; exact wA_1 h2
    rcases List.mem_cons.mp hw with e | hw
    · rw [e]; exact wA_1 h3
    rcases List.mem_cons.mp hw with e | hw
    · rw [e]; exact wA_1 h4
    exact absurd hw List.not_mem_nil
  · exact wsM_in h5 w hw
theorem cS {y : MethodName} {cy : ByteArray} {nLy idx n d : Nat} {rt : Option FieldType} (hts : ∀ w ∈ wA, w.before args s = true) (h1 : Cond.methodLink own idx y ∈ wA) (h2 : Cond.static y ∈ wA) (h4 : Cond.initialized y.cls ∈ wA) (h5 : Cond.code y cy nLy rt ∈ wA)
    (hd : y.cls ≠ "java/lang/invoke/MethodHandle" ∧ y.cls ≠ "java/lang/invoke/VarHandle" ∧ (parseMethodDescriptor y.desc).map (fun d => d.parameters.length) = some n) (hR : (rmd d).frames + 1 ≤ R.frames ∧ 8 + (nLy + 11) + (rmd d).locals ≤ R.locals) :
    CallB R s args own idx y cy nLy rt (wsM y cy nLy rt) (rmd d) 0 0 n ∧ (Cond.static y).before args s = true := by
  refine va_cwS n hts ?_ rfl rfl rfl hd hR
  intro w hw
  unfold va_wsS at hw
  rcases List.mem_append.mp hw with hw | hw
  · rcases List.mem_cons.mp hw with e | hw
    · rw [e]; exact wA_1 h1
    rcases List.mem_cons.mp hw with e | hw
    · rw [e]; exact wA_1 h2
    rcases List.mem_cons.mp hw with e | hw
    · rw [e]; exact wA_1 h4
    exact absurd hw List.not_mem_nil
  · exact wsM_in h5 w hw
theorem r_callVi (X : CX p s m args meth c cc nL own D tys kw A ret) {y : MethodName} {cy : ByteArray} {nLy idx n d a q0 ci N : Nat} {rt : Option FieldType} {C : String} {T : u_T} {As stk : List Value} {fs : List Value} {kc : KR} {f : Int32 → KS → KR}
    (hM : Ct l D tys kw A y cy nLy rt d vI (.ref a :: As) σ kc) (h1 : Cond.methodLink own idx y ∈ wA) (h2 : Cond.instanceMethod y ∈ wA) (h3 : Cond.selects C y y ∈ wA) (h4 : Cond.initialized C ∈ wA) (h5 : Cond.code y cy nLy rt ∈ wA)
    (hd : y.cls = C ∧ y.cls ≠ "java/lang/invoke/MethodHandle" ∧ y.cls ≠ "java/lang/invoke/VarHandle" ∧ (parseMethodDescriptor y.desc).map (fun d => d.parameters.length) = some n) (hR : (rmd d).frames + 1 ≤ R.frames ∧ 8 + (nLy + 11) + (rmd d).locals ≤ R.locals)
    (hq : (kw σ)[q0]? = some (a, .inr (ci, fs))) (hc : vwCl[ci]? = some (C, T, N)) (hn : As.length = n) (hst : stk = As.reverse ++ .ref a :: st) (hroom : (st.map fun v => v.category).sum ≤ 8) (hdg : decode cc pc = .ok (.invokevirtual idx, 3))
    (h : ∀ r σ1, kc = some (r, σ1) → Cr p l e R s m args below meth c nL D kw A vo (pc + 3) lv (.int r :: st) σ1 (f r σ1)) : Cr p l e R s m args below meth c nL D kw A vo pc lv stk σ (bnd kc f) := by
  intro ls H locs hl hP hS r σ' hk
  obtain ⟨a1, σ1, e1, e2⟩ := bnd_some hk
  exact r_after (va_runV (As := As) (rest := st) X.1 (hM a1 σ1 e1) (cW X.1.2.2.2.2 h1 h2 h3 h4 h5 hd hR) ⟨k_blind, va_recv X.2.1 hP hc hq, k_pre X hP⟩ rfl hn hl.1 hst (lv_room hroom) hdg ⟨Nat.zero_le _, Nat.zero_le _⟩) hl hS e2 (h a1 σ1 e1)
theorem r_callSi (X : CX p s m args meth c cc nL own D tys kw A ret) {y : MethodName} {cy : ByteArray} {nLy idx n d : Nat} {rt : Option FieldType} {As stk : List Value} {kc : KR} {f : Int32 → KS → KR}
    (hM : Ct l D tys kw A y cy nLy rt d vI As σ kc) (h1 : Cond.methodLink own idx y ∈ wA) (h2 : Cond.static y ∈ wA) (h4 : Cond.initialized y.cls ∈ wA) (h5 : Cond.code y cy nLy rt ∈ wA)
    (hd : y.cls ≠ "java/lang/invoke/MethodHandle" ∧ y.cls ≠ "java/lang/invoke/VarHandle" ∧ (parseMethodDescriptor y.desc).map (fun d => d.parameters.length) = some n) (hR : (rmd d).frames + 1 ≤ R.frames ∧ 8 + (nLy + 11) + (rmd d).locals ≤ R.locals)
    (hn : As.length = n) (hst : stk = As.reverse ++ st) (hroom : (st.map fun v => v.category).sum ≤ 8) (hdg : decode cc pc = .ok (.invokestatic idx, 3))
    (h : ∀ r σ1, kc = some (r, σ1) → Cr p l e R s m args below meth c nL D kw A vo (pc + 3) lv (.int r :: st) σ1 (f r σ1)) : Cr p l e R s m args below meth c nL D kw A vo pc lv stk σ (bnd kc f) := by
  intro ls H locs hl hP hS r σ' hk
  obtain ⟨a1, σ1, e1, e2⟩ := bnd_some hk
  exact r_after (va_runS (As := As) (rest := st) X.1 (hM a1 σ1 e1) (cS X.1.2.2.2.2 h1 h2 h4 h5 hd hR) ⟨k_blind, k_pre X hP⟩ rfl hn hl.1 hst (lv_room hroom) hdg ⟨Nat.zero_le _, Nat.zero_le _⟩) hl hS e2 (h a1 σ1 e1)
theorem r_callNi (X : CX p s m args meth c cc nL own D tys kw A ret) {y : MethodName} {host : String} {cy : ByteArray} {nLy idx n d : Nat} {rt : Option FieldType} {As stk : List Value} {kc : KR} {f : Int32 → KS → KR}
    (hM : Ct l D tys kw A y cy nLy rt d vI As σ kc) (h1 : va_Nw (.methodLinkNest own idx y host) s) (h2 : Cond.static y ∈ wA) (h4 : Cond.initialized y.cls ∈ wA) (h5 : Cond.code y cy nLy rt ∈ wA)
    (hd : y.cls ≠ "java/lang/invoke/MethodHandle" ∧ y.cls ≠ "java/lang/invoke/VarHandle" ∧ (parseMethodDescriptor y.desc).map (fun d => d.parameters.length) = some n) (hR : (rmd d).frames + 1 ≤ R.frames ∧ 8 + (nLy + 11) + (rmd d).locals ≤ R.locals)
    (hn : As.length = n) (hst : stk = As.reverse ++ st) (hroom : (st.map fun v => v.category).sum ≤ 8) (hdg : decode cc pc = .ok (.invokestatic idx, 3))
    (h : ∀ r σ1, kc = some (r, σ1) → Cr p l e R s m args below meth c nL D kw A vo (pc + 3) lv (.int r :: st) σ1 (f r σ1)) : Cr p l e R s m args below meth c nL D kw A vo pc lv stk σ (bnd kc f) := by
  intro ls H locs hl hP hS r σ' hk
  obtain ⟨a1, σ1, e1, e2⟩ := bnd_some hk
  exact r_after (va_runSN (As := As) (rest := st) X.1 (hM a1 σ1 e1) ⟨va_cnB n X.1.2.2.2.2 (wsM_in h5) rfl rfl rfl h1 (X.1.2.2.2.2 _ h4) hd hR, X.1.2.2.2.2 _ h2, trivial⟩ ⟨k_blind, k_pre X hP⟩ rfl hn hl.1 hst (lv_room hroom) hdg ⟨Nat.zero_le _, Nat.zero_le _⟩) hl hS e2 (h a1 σ1 e1)
theorem r_callVv (X : CX p s m args meth c cc nL own D tys kw A ret) {y : MethodName} {cy : ByteArray} {nLy idx n d a q0 ci N : Nat} {rt : Option FieldType} {C : String} {T : u_T} {As stk : List Value} {fs : List Value} {kc : KR} {f : Int32 → KS → KR}
    (hM : Ct l D tys kw A y cy nLy rt d vV (.ref a :: As) σ kc) (h1 : Cond.methodLink own idx y ∈ wA) (h2 : Cond.instanceMethod y ∈ wA) (h3 : Cond.selects C y y ∈ wA) (h4 : Cond.initialized C ∈ wA) (h5 : Cond.code y cy nLy rt ∈ wA)
    (hd : y.cls = C ∧ y.cls ≠ "java/lang/invoke/MethodHandle" ∧ y.cls ≠ "java/lang/invoke/VarHandle" ∧ (parseMethodDescriptor y.desc).map (fun d => d.parameters.length) = some n) (hR : (rmd d).frames + 1 ≤ R.frames ∧ 8 + (nLy + 11) + (rmd d).locals ≤ R.locals)
    (hq : (kw σ)[q0]? = some (a, .inr (ci, fs))) (hc : vwCl[ci]? = some (C, T, N)) (hn : As.length = n) (hst : stk = As.reverse ++ .ref a :: st) (hroom : (st.map fun v => v.category).sum ≤ 8) (hdg : decode cc pc = .ok (.invokevirtual idx, 3))
    (h : ∀ r σ1, kc = some (r, σ1) → Cr p l e R s m args below meth c nL D kw A vo (pc + 3) lv st σ1 (f r σ1)) : Cr p l e R s m args below meth c nL D kw A vo pc lv stk σ (bnd kc f) := by
  intro ls H locs hl hP hS r σ' hk
  obtain ⟨a1, σ1, e1, e2⟩ := bnd_some hk
  exact r_after (va_runV (As := As) (rest := st) X.1 (hM a1 σ1 e1) (cW X.1.2.2.2.2 h1 h2 h3 h4 h5 hd hR) ⟨k_blind, va_recv X.2.1 hP hc hq, k_pre X hP⟩ rfl hn hl.1 hst (lv_room hroom) hdg ⟨Nat.zero_le _, Nat.zero_le _⟩) hl hS e2 (h a1 σ1 e1)
theorem r_callSv (X : CX p s m args meth c cc nL own D tys kw A ret) {y : MethodName} {cy : ByteArray} {nLy idx n d : Nat} {rt : Option FieldType} {As stk : List Value} {kc : KR} {f : Int32 → KS → KR}
    (hM : Ct l D tys kw A y cy nLy rt d vV As σ kc) (h1 : Cond.methodLink own idx y ∈ wA) (h2 : Cond.static y ∈ wA) (h4 : Cond.initialized y.cls ∈ wA) (h5 : Cond.code y cy nLy rt ∈ wA)
    (hd : y.cls ≠ "java/lang/invoke/MethodHandle" ∧ y.cls ≠ "java/lang/invoke/VarHandle" ∧ (parseMethodDescriptor y.desc).map (fun d => d.parameters.length) = some n) (hR : (rmd d).frames + 1 ≤ R.frames ∧ 8 + (nLy + 11) + (rmd d).locals ≤ R.locals)
    (hn : As.length = n) (hst : stk = As.reverse ++ st) (hroom : (st.map fun v => v.category).sum ≤ 8) (hdg : decode cc pc = .ok (.invokestatic idx, 3))
    (h : ∀ r σ1, kc = some (r, σ1) → Cr p l e R s m args below meth c nL D kw A vo (pc + 3) lv st σ1 (f r σ1)) : Cr p l e R s m args below meth c nL D kw A vo pc lv stk σ (bnd kc f) := by
  intro ls H locs hl hP hS r σ' hk
  obtain ⟨a1, σ1, e1, e2⟩ := bnd_some hk
  exact r_after (va_runS (As := As) (rest := st) X.1 (hM a1 σ1 e1) (cS X.1.2.2.2.2 h1 h2 h4 h5 hd hR) ⟨k_blind, k_pre X hP⟩ rfl hn hl.1 hst (lv_room hroom) hdg ⟨Nat.zero_le _, Nat.zero_le _⟩) hl hS e2 (h a1 σ1 e1)
theorem r_callNv (X : CX p s m args meth c cc nL own D tys kw A ret) {y : MethodName} {host : String} {cy : ByteArray} {nLy idx n d : Nat} {rt : Option FieldType} {As stk : List Value} {kc : KR} {f : Int32 → KS → KR}
    (hM : Ct l D tys kw A y cy nLy rt d vV As σ kc) (h1 : va_Nw (.methodLinkNest own idx y host) s) (h2 : Cond.static y ∈ wA) (h4 : Cond.initialized y.cls ∈ wA) (h5 : Cond.code y cy nLy rt ∈ wA)
    (hd : y.cls ≠ "java/lang/invoke/MethodHandle" ∧ y.cls ≠ "java/lang/invoke/VarHandle" ∧ (parseMethodDescriptor y.desc).map (fun d => d.parameters.length) = some n) (hR : (rmd d).frames + 1 ≤ R.frames ∧ 8 + (nLy + 11) + (rmd d).locals ≤ R.locals)
    (hn : As.length = n) (hst : stk = As.reverse ++ st) (hroom : (st.map fun v => v.category).sum ≤ 8) (hdg : decode cc pc = .ok (.invokestatic idx, 3))
    (h : ∀ r σ1, kc = some (r, σ1) → Cr p l e R s m args below meth c nL D kw A vo (pc + 3) lv st σ1 (f r σ1)) : Cr p l e R s m args below meth c nL D kw A vo pc lv stk σ (bnd kc f) := by
  intro ls H locs hl hP hS r σ' hk
  obtain ⟨a1, σ1, e1, e2⟩ := bnd_some hk
  exact r_after (va_runSN (As := As) (rest := st) X.1 (hM a1 σ1 e1) ⟨va_cnB n X.1.2.2.2.2 (wsM_in h5) rfl rfl rfl h1 (X.1.2.2.2.2 _ h4) hd hR, X.1.2.2.2.2 _ h2, trivial⟩ ⟨k_blind, k_pre X hP⟩ rfl hn hl.1 hst (lv_room hroom) hdg ⟨Nat.zero_le _, Nat.zero_le _⟩) hl hS e2 (h a1 σ1 e1)
end CRR
end
section
/-! the cells of the class (17) and of the reference (17) -/
def kwX (cI : ClassId) (α : Nat → Nat) (σ : KS) : va_W := [(α 0, .inr (2, [.ref (α 1), .ref (α 2), .ref (α 3), .ref (α 8), .ref (α 9), .ref (α 10), .ref (α 11), .ref (α 12), .ref (α 13), .ref (α 14), .ref (α 15), .ref (α 16), .int (σ.2 0), .int (σ.2 1), .int (σ.2 2), .int (σ.2 3)])),
  (α 1, .inr (0, [.ref (α 4), .ref (α 5)])), (α 2, .inr (1, [.ref (α 1), .ref (α 6)])), (α 3, .inr (1, [.ref (α 1), .ref (α 7)])),
  (α 4, .inl (cI, 128, .inl (σ.1 4))), (α 5, .inl (cI, 8, .inl (σ.1 5))), (α 6, .inl (cI, 128, .inl (σ.1 6))), (α 7, .inl (cI, 128, .inl (σ.1 7))), (α 8, .inl (cI, 8192, .inl (σ.1 8))), (α 9, .inl (cI, 128, .inl (σ.1 9))), (α 10, .inl (cI, 128, .inl (σ.1 10))),
  (α 11, .inl (cI, 16, .inl (σ.1 11))), (α 12, .inl (cI, 16, .inl (σ.1 12))), (α 13, .inl (cI, 16, .inl (σ.1 13))), (α 14, .inl (cI, 16, .inl (σ.1 14))), (α 15, .inl (cI, 16, .inl (σ.1 15))), (α 16, .inl (cI, 16, .inl (σ.1 16)))]
def kwM (cI cZ : ClassId) (α : Nat → Nat) (σ : KS) : va_W := [(α 0, .inr (3, [.ref (α 1), .ref (α 2), .ref (α 3), .ref (α 4), .ref (α 5), .ref (α 6), .ref (α 7), .ref (α 8), .ref (α 9), .ref (α 10), .ref (α 11), .ref (α 12), .ref (α 13), .int (σ.2 0), .int (σ.2 1), .int (σ.2 2), .int (σ.2 3), .ref (α 14), .ref (α 15), .ref (α 16)])),
  (α 1, .inl (cZ, 1024, .inl (σ.1 1))), (α 2, .inl (cI, 128, .inl (σ.1 2))), (α 3, .inl (cZ, 512, .inl (σ.1 3))), (α 4, .inl (cI, 8192, .inl (σ.1 4))), (α 5, .inl (cI, 128, .inl (σ.1 5))), (α 6, .inl (cI, 16, .inl (σ.1 6))), (α 7, .inl (cI, 16, .inl (σ.1 7))),
  (α 8, .inl (cI, 16, .inl (σ.1 8))), (α 9, .inl (cI, 16, .inl (σ.1 9))), (α 10, .inl (cI, 16, .inl (σ.1 10))), (α 11, .inl (cI, 4096, .inl (σ.1 11))), (α 12, .inl (cI, 256, .inl (σ.1 12))), (α 13, .inl (cI, 16, .inl (σ.1 13))),
  (α 14, .inl (cZ, 1024, .inl (σ.1 14))), (α 15, .inl (cI, 128, .inl (σ.1 15))), (α 16, .inl (cZ, 512, .inl (σ.1 16)))]
abbrev tyA (cI cZ : ClassId) : List (ClassId × FieldType) := [(cI, .int), (cZ, .boolean)]
end
section
/-! the models of the methods, by program out of the bytecode -/
def m_J6_bitCount_0f7a4 (x0 : Int32) (σ : KS) : KR :=
    some (((((((((x0 - (((x0.toUInt32 >>> ((1 : Int32).toUInt32 &&& Int32.toUInt32 31)).toInt32) &&& 1431655765)) &&& 858993459) + ((((x0 - (((x0.toUInt32 >>> ((1 : Int32).toUInt32 &&& Int32.toUInt32 31)).toInt32) &&& 1431655765)).toUInt32 >>> ((2 : Int32).toUInt32 &&& Int32.toUInt32 31)).toInt32) &&& 858993459)) + (((((x0 - (((x0.toUInt32 >>> ((1 : Int32).toUInt32 &&& Int32.toUInt32 31)).toInt32) &&& 1431655765)) &&& 858993459) + ((((x0 - (((x0.toUInt32 >>> ((1 : Int32).toUInt32 &&& Int32.toUInt32 31)).toInt32) &&& 1431655765)).toUInt32 >>> ((2 : Int32).toUInt32 &&& Int32.toUInt32 31)).toInt32) &&& 858993459)).toUInt32 >>> ((4 : Int32).toUInt32 &&& Int32.toUInt32 31)).toInt32)) &&& 252645135) + (((((((x0 - (((x0.toUInt32 >>> ((1 : Int32).toUInt32 &&& Int32.toUInt32 31)).toInt32) &&& 1431655765)) &&& 858993459) + ((((x0 - (((x0.toUInt32 >>> ((1 : Int32).toUInt32 &&& Int32.toUInt32 31)).toInt32) &&& 1431655765)).toUInt32 >>> ((2 : Int32).toUInt32 &&& Int32.toUInt32 31)).toInt32) &&& 858993459)) + (((((x0 - (((x0.toUInt32 >>> ((1 : Int32).toUInt32 &&& Int32.toUInt32 31)).toInt32) &&& 1431655765)) &&& 858993459) + ((((x0 - (((x0.toUInt32 >>> ((1 : Int32).toUInt32 &&& Int32.toUInt32 31)).toInt32) &&& 1431655765)).toUInt32 >>> ((2 : Int32).toUInt32 &&& Int32.toUInt32 31)).toInt32) &&& 858993459)).toUInt32 >>> ((4 : Int32).toUInt32 &&& Int32.toUInt32 31)).toInt32)) &&& 252645135).toUInt32 >>> ((8 : Int32).toUInt32 &&& Int32.toUInt32 31)).toInt32)) + ((((((((x0 - (((x0.toUInt32 >>> ((1 : Int32).toUInt32 &&& Int32.toUInt32 31)).toInt32) &&& 1431655765)) &&& 858993459) + ((((x0 - (((x0.toUInt32 >>> ((1 : Int32).toUInt32 &&& Int32.toUInt32 31)).toInt32) &&& 1431655765)).toUInt32 >>> ((2 : Int32).toUInt32 &&& Int32.toUInt32 31)).toInt32) &&& 858993459)) + (((((x0 - (((x0.toUInt32 >>> ((1 : Int32).toUInt32 &&& Int32.toUInt32 31)).toInt32) &&& 1431655765)) &&& 858993459) + ((((x0 - (((x0.toUInt32 >>> ((1 : Int32).toUInt32 &&& Int32.toUInt32 31)).toInt32) &&& 1431655765)).toUInt32 >>> ((2 : Int32).toUInt32 &&& Int32.toUInt32 31)).toInt32) &&& 858993459)).toUInt32 >>> ((4 : Int32).toUInt32 &&& Int32.toUInt32 31)).toInt32)) &&& 252645135) + (((((((x0 - (((x0.toUInt32 >>> ((1 : Int32).toUInt32 &&& Int32.toUInt32 31)).toInt32) &&& 1431655765)) &&& 858993459) + ((((x0 - (((x0.toUInt32 >>> ((1 : Int32).toUInt32 &&& Int32.toUInt32 31)).toInt32) &&& 1431655765)).toUInt32 >>> ((2 : Int32).toUInt32 &&& Int32.toUInt32 31)).toInt32) &&& 858993459)) + (((((x0 - (((x0.toUInt32 >>> ((1 : Int32).toUInt32 &&& Int32.toUInt32 31)).toInt32) &&& 1431655765)) &&& 858993459) + ((((x0 - (((x0.toUInt32 >>> ((1 : Int32).toUInt32 &&& Int32.toUInt32 31)).toInt32) &&& 1431655765)).toUInt32 >>> ((2 : Int32).toUInt32 &&& Int32.toUInt32 31)).toInt32) &&& 858993459)).toUInt32 >>> ((4 : Int32).toUInt32 &&& Int32.toUInt32 31)).toInt32)) &&& 252645135).toUInt32 >>> ((8 : Int32).toUInt32 &&& Int32.toUInt32 31)).toInt32)).toUInt32 >>> ((16 : Int32).toUInt32 &&& Int32.toUInt32 31)).toInt32)) &&& 63), σ)
def f_X1r_leastWithRoom_2 : Nat → Int32 → KS → KR
  | 0, _, _ => none
  | n + 1, x1, σ =>
    if 128 ≤ x1 then
    some ((-1), σ)
    else chk x1 128 (if (rd σ 6 x1) = 0 then
    f_X1r_leastWithRoom_2 n (x1 + 1) σ
    else chk x1 128 (if (rd σ 6 x1) = 15 then
    f_X1r_leastWithRoom_2 n (x1 + 1) σ
    else some (x1, σ)))
def m_X1r_leastWithRoom (σ : KS) : KR :=
    f_X1r_leastWithRoom_2 FU 0 σ
def f_X1t_leastWithRoom_2 : Nat → Int32 → KS → KR
  | 0, _, _ => none
  | n + 1, x1, σ =>
    if 128 ≤ x1 then
    some ((-1), σ)
    else chk x1 128 (if (rd σ 7 x1) = 0 then
    f_X1t_leastWithRoom_2 n (x1 + 1) σ
    else chk x1 128 (if (rd σ 7 x1) = 15 then
    f_X1t_leastWithRoom_2 n (x1 + 1) σ
    else some (x1, σ)))
def m_X1t_leastWithRoom (σ : KS) : KR :=
    f_X1t_leastWithRoom_2 FU 0 σ
def f_X2_childrenOf_4 : Nat → Int32 → Int32 → Int32 → KS → KR
  | 0, _, _, _, _ => none
  | n + 1, x1, x2, x3, σ =>
    if 16 ≤ x3 then
    some (x2, σ)
    else chk x3 16 (if (rd σ 12 x3) = x1 then
    f_X2_childrenOf_4 n x1 (x2 + 1) (x3 + 1) σ
    else f_X2_childrenOf_4 n x1 x2 (x3 + 1) σ)
def m_X2_childrenOf (x1 : Int32) (σ : KS) : KR :=
    f_X2_childrenOf_4 FU x1 0 0 σ
def f_X2_countInState_4 : Nat → Int32 → Int32 → Int32 → KS → KR
  | 0, _, _, _, _ => none
  | n + 1, x1, x2, x3, σ =>
    if 16 ≤ x3 then
    some (x2, σ)
    else chk x3 16 (if (rd σ 11 x3) = x1 then
    f_X2_countInState_4 n x1 (x2 + 1) (x3 + 1) σ
    else f_X2_countInState_4 n x1 x2 (x3 + 1) σ)
def m_X2_countInState (x1 : Int32) (σ : KS) : KR :=
    f_X2_countInState_4 FU x1 0 0 σ
def m_X2_current (σ : KS) : KR :=
    if (gv σ 0) = 0 then
    some ((-1), σ)
    else chk 0 16 (some ((rd σ 16 0), σ))
def m_X2_isFrame (x0 : Int32) (σ : KS) : KR :=
    if x0 < 0 then
    some (0, σ)
    else if 128 ≤ x0 then
    some (0, σ)
    else some (1, σ)
def m_X2_isNumber (x0 : Int32) (σ : KS) : KR :=
    if x0 < 0 then
    some (0, σ)
    else if 16 ≤ x0 then
    some (0, σ)
    else some (1, σ)
def m_X2_isOrder (x0 : Int32) (σ : KS) : KR :=
    if x0 < 0 then
    some (0, σ)
    else if 7 < x0 then
    some (0, σ)
    else some (1, σ)
def m_X2_joinRow (x1 : Int32) (σ : KS) : KR :=
    if 16 ≤ (gv σ 0) then
    some (0, σ)
    else chk (gv σ 0) 16 (some (0, (sv (wr σ 16 (gv σ 0) x1) 0 ((gv (wr σ 16 (gv σ 0) x1) 0) + 1))))
def f_X2_leastUnused_2 : Nat → Int32 → KS → KR
  | 0, _, _ => none
  | n + 1, x1, σ =>
    if 16 ≤ x1 then
    some ((-1), σ)
    else chk x1 16 (if (rd σ 11 x1) = 0 then
    some (x1, σ)
    else f_X2_leastUnused_2 n (x1 + 1) σ)
def m_X2_leastUnused (σ : KS) : KR :=
    f_X2_leastUnused_2 FU 0 σ
def f_X2_leaveRow_4 : Nat → Int32 → Int32 → Int32 → KS → KR
  | 0, _, _, _, _ => none
  | n + 1, x1, x2, x3, σ =>
    if (gv σ 0) ≤ x3 then
    some (0, (sv σ 0 x2))
    else chk x3 16 (if (rd σ 16 x3) = x1 then
    f_X2_leaveRow_4 n x1 x2 (x3 + 1) σ
    else chk x3 16 (chk x2 16 (f_X2_leaveRow_4 n x1 (x2 + 1) (x3 + 1) (wr σ 16 x2 (rd σ 16 x3)))))
def m_X2_leaveRow (x1 : Int32) (σ : KS) : KR :=
    f_X2_leaveRow_4 FU x1 0 0 σ
def m_X2_pageOf (x0 : Int32) (σ : KS) : KR :=
    some ((x0 >>> (6 &&& 31)), σ)
def f_X2_placeInRow_2 : Nat → Int32 → Int32 → KS → KR
  | 0, _, _, _ => none
  | n + 1, x1, x2, σ =>
    if (gv σ 0) ≤ x2 then
    some ((-1), σ)
    else chk x2 16 (if (rd σ 16 x2) = x1 then
    some (x2, σ)
    else f_X2_placeInRow_2 n x1 (x2 + 1) σ)
def m_X2_placeInRow (x1 : Int32) (σ : KS) : KR :=
    f_X2_placeInRow_2 FU x1 0 σ
def m_X2_refuse (σ : KS) : KR :=
    some ((-3), (sv σ 2 ((gv σ 2) + 1)))
def m_X2_setWord (x1 x2 : Int32) (σ : KS) : KR :=
    if x1 < 0 then
    some (0, σ)
    else if 8192 ≤ x1 then
    some (0, σ)
    else chk x1 8192 (some (0, (wr σ 8 x1 x2)))
def m_X2_tableIndex (x1 x2 : Int32) (σ : KS) : KR :=
    chk x1 16 (some ((((rd σ 15 x1) * 16) + (x2 / 16)), σ))
def m_X2_wordAt (x1 : Int32) (σ : KS) : KR :=
    if x1 < 0 then
    some (0, σ)
    else if 8192 ≤ x1 then
    some (0, σ)
    else chk x1 8192 (some ((rd σ 8 x1), σ))
def m_X0_countOf (x1 : Int32) (σ : KS) : KR :=
    bnd (m_X2_isOrder x1 σ) (fun r_1 σ_1 => if r_1 = 0 then
    some (0, σ_1)
    else chk x1 8 (some ((rd σ_1 5 x1), σ_1)))
def m_X0_isFreeBlock (x1 x2 : Int32) (σ : KS) : KR :=
    bnd (m_X2_isFrame x1 σ) (fun r_1 σ_1 => if r_1 = 0 then
    some (0, σ_1)
    else chk x1 128 (if (rd σ_1 4 x1) = x2 then
    some (1, σ_1)
    else some (0, σ_1)))
def m_X0_leaveOut (x1 x2 : Int32) (σ : KS) : KR :=
    bnd (m_X2_isFrame x1 σ) (fun r_1 σ_1 => if r_1 = 0 then
    some (0, σ_1)
    else bnd (m_X2_isOrder x2 σ_1) (fun r_8 σ_8 => if r_8 = 0 then
    some (0, σ_8)
    else chk x1 128 (chk x2 8 (chk x2 8 (some (0, (wr (wr σ_8 4 x1 (-1)) 5 x2 ((rd (wr σ_8 4 x1 (-1)) 5 x2) - 1))))))))
def m_X0_putIn (x1 x2 : Int32) (σ : KS) : KR :=
    bnd (m_X2_isFrame x1 σ) (fun r_1 σ_1 => if r_1 = 0 then
    some (0, σ_1)
    else bnd (m_X2_isOrder x2 σ_1) (fun r_8 σ_8 => if r_8 = 0 then
    some (0, σ_8)
    else chk x1 128 (chk x2 8 (chk x2 8 (some (0, (wr (wr σ_8 4 x1 x2) 5 x2 ((rd (wr σ_8 4 x1 x2) 5 x2) + 1))))))))
def m_X1r_countIn (x1 : Int32) (σ : KS) : KR :=
    bnd (m_X2_isFrame x1 σ) (fun r_1 σ_1 => if r_1 = 0 then
    some (0, σ_1)
    else chk x1 128 (bnd (m_J6_bitCount_0f7a4 (rd σ_1 6 x1) σ_1) (fun r_13 σ_13 => some (r_13, σ_13))))
def m_X1t_countIn (x1 : Int32) (σ : KS) : KR :=
    bnd (m_X2_isFrame x1 σ) (fun r_1 σ_1 => if r_1 = 0 then
    some (0, σ_1)
    else chk x1 128 (bnd (m_J6_bitCount_0f7a4 (rd σ_1 7 x1) σ_1) (fun r_13 σ_13 => some (r_13, σ_13))))
def f_X2_isKernels_2 : Nat → Int32 → Int32 → KS → KR
  | 0, _, _, _ => none
  | n + 1, x1, x2, σ =>
    if 7 < x2 then
    some (0, σ)
    else bnd (m_X2_isFrame ((x1 >>> (x2 &&& 31)) <<< (x2 &&& 31)) σ) (fun r_15 σ_15 => if r_15 = 0 then
    f_X2_isKernels_2 n x1 (x2 + 1) σ_15
    else chk ((x1 >>> (x2 &&& 31)) <<< (x2 &&& 31)) 128 (if (rd σ_15 10 ((x1 >>> (x2 &&& 31)) <<< (x2 &&& 31))) = x2 then
    some (1, σ_15)
    else f_X2_isKernels_2 n x1 (x2 + 1) σ_15))
def m_X2_isKernels (x1 : Int32) (σ : KS) : KR :=
    f_X2_isKernels_2 FU x1 0 σ
def m_X2_isLive (x1 : Int32) (σ : KS) : KR :=
    bnd (m_X2_isNumber x1 σ) (fun r_1 σ_1 => if r_1 = 0 then
    some (0, σ_1)
    else chk x1 16 (if (rd σ_1 11 x1) = 1 then
    some (1, σ_1)
    else some (0, σ_1)))
def m_X2_pageIndex (x1 x2 : Int32) (σ : KS) : KR :=
    bnd (m_X2_tableIndex x1 x2 σ) (fun r_4 σ_4 => bnd (m_X2_wordAt r_4 σ_4) (fun r_7 σ_7 => some (((r_7 * 16) + (x2 - x2 / 16 * 16)), σ_7)))
def m_X2_process (x1 x2 : Int32) (σ : KS) : KR :=
    bnd (m_X2_isNumber x1 σ) (fun r_1 σ_1 => if r_1 = 0 then
    some ((-2), σ_1)
    else if x2 = 0 then
    chk x1 16 (some ((rd σ_1 11 x1), σ_1))
    else if x2 = 1 then
    chk x1 16 (some ((rd σ_1 14 x1), σ_1))
    else if x2 = 2 then
    chk x1 16 (some ((rd σ_1 12 x1), σ_1))
    else if x2 = 3 then
    bnd (m_X2_childrenOf x1 σ_1) (fun r_67 σ_67 => some (r_67, σ_67))
    else if x2 = 4 then
    bnd (m_X2_placeInRow x1 σ_1) (fun r_73 σ_73 => some (r_73, σ_73))
    else some ((-2), σ_1))
def m_X2_tick (σ : KS) : KR :=
    if (gv σ 0) = 0 then
    some ((-1), σ)
    else chk 0 16 (bnd (m_X2_leaveRow (rd σ 16 0) σ) (fun _ σ_18 => bnd (m_X2_joinRow (rd σ 16 0) σ_18) (fun _ σ_23 => chk 0 16 (some ((rd (sv σ_23 3 ((gv σ_23 3) + 1)) 16 0), (sv σ_23 3 ((gv σ_23 3) + 1)))))))
def m_X2_told (x1 : Int32) (σ : KS) : KR :=
    if x1 = 0 then
    bnd (m_X2_countInState 1 σ) (fun r_38 σ_38 => some (r_38, σ_38))
    else if x1 = 1 then
    bnd (m_X2_countInState 2 σ) (fun r_44 σ_44 => some (r_44, σ_44))
    else if x1 = 2 then
    some ((gv σ 1), σ)
    else if x1 = 3 then
    some ((gv σ 2), σ)
    else if x1 = 4 then
    some ((gv σ 3), σ)
    else some ((-2), σ)
def f_X0_giveBlock_5 : Nat → Int32 → Int32 → Int32 → Int32 → KS → KR
  | 0, _, _, _, _, _ => none
  | n + 1, x1, x2, x3, x4, σ =>
    if 7 ≤ x4 then
    bnd (m_X0_putIn x3 x4 σ) (fun _ σ_58 => some (0, σ_58))
    else bnd (m_X0_isFreeBlock (x3 ^^^ ((1 : Int32) <<< (x4 &&& 31))) x4 σ) (fun r_21 σ_21 => if r_21 = 0 then
    bnd (m_X0_putIn x3 x4 σ_21) (fun _ σ_58 => some (0, σ_58))
    else bnd (m_X0_leaveOut (x3 ^^^ ((1 : Int32) <<< (x4 &&& 31))) x4 σ_21) (fun _ σ_36 => f_X0_giveBlock_5 n x1 x2 (x3 &&& (((1 : Int32) <<< (x4 &&& 31)) ^^^ (-1))) (x4 + 1) σ_36))
def m_X0_giveBlock (x1 x2 : Int32) (σ : KS) : KR :=
    f_X0_giveBlock_5 FU x1 x2 x1 x2 σ
def f_X0_leastOf_12 : Nat → Int32 → Int32 → KS → KR
  | 0, _, _, _ => none
  | n + 1, x1, x2, σ =>
    if 128 ≤ x2 then
    some ((-1), σ)
    else chk x2 128 (if (rd σ 4 x2) = x1 then
    some (x2, σ)
    else f_X0_leastOf_12 n x1 (x2 + ((1 : Int32) <<< (x1 &&& 31))) σ)
def m_X0_leastOf (x1 : Int32) (σ : KS) : KR :=
    bnd (m_X0_countOf x1 σ) (fun r_2 σ_2 => if r_2 = 0 then
    some ((-1), σ_2)
    else f_X0_leastOf_12 FU x1 0 σ_2)
def f_X2_freeFrames_4 : Nat → Int32 → Int32 → KS → KR
  | 0, _, _, _ => none
  | n + 1, x1, x2, σ =>
    if 7 < x2 then
    some (x1, σ)
    else bnd (m_X0_countOf x2 σ) (fun r_16 σ_16 => f_X2_freeFrames_4 n (x1 + (r_16 <<< (x2 &&& 31))) (x2 + 1) σ_16)
def m_X2_freeFrames (σ : KS) : KR :=
    f_X2_freeFrames_4 FU 0 0 σ
def m_X2_hasPage (x1 x2 : Int32) (σ : KS) : KR :=
    bnd (m_X2_isLive x1 σ) (fun r_2 σ_2 => if r_2 = 0 then
    some (0, σ_2)
    else if x2 < 0 then
    some (0, σ_2)
    else chk x1 16 (if (rd σ_2 14 x1) ≤ x2 then
    some (0, σ_2)
    else some (1, σ_2)))
def m_X2_kindOf (x1 : Int32) (σ : KS) : KR :=
    bnd (m_X1r_countIn x1 σ) (fun r_5 σ_5 => if r_5 ≤ 0 then
    bnd (m_X1t_countIn x1 σ_5) (fun r_18 σ_18 => if r_18 ≤ 0 then
    bnd (m_X2_isFrame x1 σ_18) (fun r_27 σ_27 => if r_27 = 0 then
    bnd (m_X2_isKernels x1 σ_27) (fun r_46 σ_46 => if r_46 = 0 then
    some (0, σ_46)
    else some (4, σ_46))
    else chk x1 128 (if (rd σ_27 9 x1) ≤ 0 then
    bnd (m_X2_isKernels x1 σ_27) (fun r_46 σ_46 => if r_46 = 0 then
    some (0, σ_46)
    else some (4, σ_46))
    else some (3, σ_27)))
    else some (2, σ_18))
    else some (1, σ_5))
def f_X0_takeBlock_30 : Nat → Int32 → Int32 → Int32 → Int32 → KS → KR
  | 0, _, _, _, _, _ => none
  | n + 1, x1, x2, x3, x4, σ =>
    if x4 < x1 then
    some (x3, σ)
    else bnd (m_X0_putIn (x3 + ((1 : Int32) <<< (x4 &&& 31))) x4 σ) (fun _ σ_45 => f_X0_takeBlock_30 n x1 x2 x3 (x4 + (-1)) σ_45)
def f_X0_takeBlock_2 : Nat → Int32 → Int32 → KS → KR
  | 0, _, _, _ => none
  | n + 1, x1, x2, σ =>
    if 7 < x2 then
    some ((-1), σ)
    else bnd (m_X0_leastOf x2 σ) (fun r_10 σ_10 => if r_10 = (-1) then
    f_X0_takeBlock_2 n x1 (x2 + 1) σ_10
    else bnd (m_X0_leaveOut r_10 x2 σ_10) (fun _ σ_22 => f_X0_takeBlock_30 FU x1 x2 r_10 (x2 - 1) σ_22))
def m_X0_takeBlock (x1 : Int32) (σ : KS) : KR :=
    f_X0_takeBlock_2 FU x1 x1 σ
def m_X1r_givePlace (x1 : Int32) (σ : KS) : KR :=
    if x1 < 0 then
    some (0, σ)
    else bnd (m_X2_isFrame (x1 / 4) σ) (fun r_9 σ_9 => if r_9 = 0 then
    some (0, σ_9)
    else chk (x1 / 4) 128 (chk (x1 / 4) 128 (chk (x1 / 4) 128 (if (rd (wr σ_9 6 (x1 / 4) ((rd σ_9 6 (x1 / 4)) &&& (((1 : Int32) <<< ((x1 - x1 / 4 * 4) &&& 31)) ^^^ (-1)))) 6 (x1 / 4)) = 0 then
    bnd (m_X0_giveBlock (x1 / 4) 0 (wr σ_9 6 (x1 / 4) ((rd σ_9 6 (x1 / 4)) &&& (((1 : Int32) <<< ((x1 - x1 / 4 * 4) &&& 31)) ^^^ (-1))))) (fun _ σ_47 => some (0, σ_47))
    else some (0, (wr σ_9 6 (x1 / 4) ((rd σ_9 6 (x1 / 4)) &&& (((1 : Int32) <<< ((x1 - x1 / 4 * 4) &&& 31)) ^^^ (-1)))))))))
def m_X1t_givePlace (x1 : Int32) (σ : KS) : KR :=
    if x1 < 0 then
    some (0, σ)
    else bnd (m_X2_isFrame (x1 / 4) σ) (fun r_9 σ_9 => if r_9 = 0 then
    some (0, σ_9)
    else chk (x1 / 4) 128 (chk (x1 / 4) 128 (chk (x1 / 4) 128 (if (rd (wr σ_9 7 (x1 / 4) ((rd σ_9 7 (x1 / 4)) &&& (((1 : Int32) <<< ((x1 - x1 / 4 * 4) &&& 31)) ^^^ (-1)))) 7 (x1 / 4)) = 0 then
    bnd (m_X0_giveBlock (x1 / 4) 0 (wr σ_9 7 (x1 / 4) ((rd σ_9 7 (x1 / 4)) &&& (((1 : Int32) <<< ((x1 - x1 / 4 * 4) &&& 31)) ^^^ (-1))))) (fun _ σ_47 => some (0, σ_47))
    else some (0, (wr σ_9 7 (x1 / 4) ((rd σ_9 7 (x1 / 4)) &&& (((1 : Int32) <<< ((x1 - x1 / 4 * 4) &&& 31)) ^^^ (-1)))))))))
def m_X2_about (x1 x2 : Int32) (σ : KS) : KR :=
    bnd (m_X2_isFrame x1 σ) (fun r_1 σ_1 => if r_1 = 0 then
    some ((-2), σ_1)
    else if x2 = 0 then
    bnd (m_X2_kindOf x1 σ_1) (fun r_38 σ_38 => some (r_38, σ_38))
    else if x2 = 1 then
    bnd (m_X1r_countIn x1 σ_1) (fun r_47 σ_47 => bnd (m_X1t_countIn x1 σ_47) (fun r_55 σ_55 => chk x1 128 (some (((r_47 + r_55) + (rd σ_55 9 x1)), σ_55))))
    else some ((-2), σ_1))
def m_X2_dropPageFrame (x1 : Int32) (σ : KS) : KR :=
    bnd (m_X2_isFrame x1 σ) (fun r_1 σ_1 => if r_1 = 0 then
    some (0, σ_1)
    else chk x1 128 (chk x1 128 (chk x1 128 (if (rd (wr σ_1 9 x1 ((rd σ_1 9 x1) - 1)) 9 x1) = 0 then
    bnd (m_X0_giveBlock x1 0 (wr σ_1 9 x1 ((rd σ_1 9 x1) - 1))) (fun _ σ_33 => some (0, σ_33))
    else some (0, (wr σ_1 9 x1 ((rd σ_1 9 x1) - 1)))))))
def m_X2_frameOfPage (x1 x2 : Int32) (σ : KS) : KR :=
    bnd (m_X2_hasPage x1 x2 σ) (fun r_3 σ_3 => if r_3 = 0 then
    some ((-1), σ_3)
    else bnd (m_X2_pageIndex x1 x2 σ_3) (fun r_13 σ_13 => bnd (m_X2_wordAt r_13 σ_13) (fun r_16 σ_16 => some (r_16, σ_16))))
def m_X2_free (x1 x2 : Int32) (σ : KS) : KR :=
    bnd (m_X2_isOrder x1 σ) (fun r_1 σ_1 => if r_1 = 0 then
    some ((-2), σ_1)
    else if x2 = 0 then
    bnd (m_X0_countOf x1 σ_1) (fun r_41 σ_41 => some (r_41, σ_41))
    else if x2 = 1 then
    bnd (m_X0_leastOf x1 σ_1) (fun r_50 σ_50 => some (r_50, σ_50))
    else some ((-2), σ_1))
def m_X2_has (x1 x2 : Int32) (σ : KS) : KR :=
    bnd (m_X2_pageOf x2 σ) (fun r_3 σ_3 => bnd (m_X2_hasPage x1 r_3 σ_3) (fun r_6 σ_6 => zchk r_6 (some (r_6, σ_6))))
def m_X2_unblock (x1 : Int32) (σ : KS) : KR :=
    bnd (m_X2_isFrame x1 σ) (fun r_1 σ_1 => if r_1 = 0 then
    some ((-2), σ_1)
    else chk x1 128 (if (rd σ_1 10 x1) = (-1) then
    some ((-2), σ_1)
    else chk x1 128 (chk x1 128 (bnd (m_X0_giveBlock x1 (rd σ_1 10 x1) (wr σ_1 10 x1 (-1))) (fun _ σ_40 => some ((rd σ_1 10 x1), σ_40))))))
def f_X1r_takePlace_30 : Nat → Int32 → Int32 → KS → KR
  | 0, _, _, _ => none
  | n + 1, x1, x2, σ =>
    if 4 ≤ x2 then
    some ((-1), σ)
    else chk x1 128 (if ((rd σ 6 x1) &&& ((1 : Int32) <<< (x2 &&& 31))) = 0 then
    chk x1 128 (chk x1 128 (some (((x1 * 4) + x2), (wr σ 6 x1 ((rd σ 6 x1) ||| ((1 : Int32) <<< (x2 &&& 31)))))))
    else f_X1r_takePlace_30 n x1 (x2 + 1) σ)
def m_X1r_takePlace (σ : KS) : KR :=
    bnd (m_X1r_leastWithRoom σ) (fun r_1 σ_1 => if r_1 = (-1) then
    bnd (m_X0_takeBlock 0 σ_1) (fun r_15 σ_15 => bnd (m_X2_isFrame r_15 σ_15) (fun r_20 σ_20 => if r_20 = 0 then
    some ((-1), σ_20)
    else f_X1r_takePlace_30 FU r_15 0 σ_20))
    else bnd (m_X2_isFrame r_1 σ_1) (fun r_20 σ_20 => if r_20 = 0 then
    some ((-1), σ_20)
    else f_X1r_takePlace_30 FU r_1 0 σ_20))
def f_X1t_takePlace_30 : Nat → Int32 → Int32 → KS → KR
  | 0, _, _, _ => none
  | n + 1, x1, x2, σ =>
    if 4 ≤ x2 then
    some ((-1), σ)
    else chk x1 128 (if ((rd σ 7 x1) &&& ((1 : Int32) <<< (x2 &&& 31))) = 0 then
    chk x1 128 (chk x1 128 (some (((x1 * 4) + x2), (wr σ 7 x1 ((rd σ 7 x1) ||| ((1 : Int32) <<< (x2 &&& 31)))))))
    else f_X1t_takePlace_30 n x1 (x2 + 1) σ)
def m_X1t_takePlace (σ : KS) : KR :=
    bnd (m_X1t_leastWithRoom σ) (fun r_1 σ_1 => if r_1 = (-1) then
    bnd (m_X0_takeBlock 0 σ_1) (fun r_15 σ_15 => bnd (m_X2_isFrame r_15 σ_15) (fun r_20 σ_20 => if r_20 = 0 then
    some ((-1), σ_20)
    else f_X1t_takePlace_30 FU r_15 0 σ_20))
    else bnd (m_X2_isFrame r_1 σ_1) (fun r_20 σ_20 => if r_20 = 0 then
    some ((-1), σ_20)
    else f_X1t_takePlace_30 FU r_1 0 σ_20))
def m_X2_block (x1 : Int32) (σ : KS) : KR :=
    bnd (m_X2_isOrder x1 σ) (fun r_1 σ_1 => if r_1 = 0 then
    some ((-2), σ_1)
    else bnd (m_X0_takeBlock x1 σ_1) (fun r_15 σ_15 => bnd (m_X2_isFrame r_15 σ_15) (fun r_20 σ_20 => if r_20 = 0 then
    bnd (m_X2_refuse σ_20) (fun r_27 σ_27 => some (r_27, σ_27))
    else chk r_15 128 (some (r_15, (wr σ_20 10 r_15 x1))))))
def m_X2_dropTable (x1 x2 : Int32) (σ : KS) : KR :=
    bnd (m_X2_tableIndex x1 x2 σ) (fun r_8 σ_8 => bnd (m_X2_wordAt r_8 σ_8) (fun r_11 σ_11 => bnd (m_X1t_givePlace r_11 σ_11) (fun _ σ_14 => some (0, σ_14))))
def m_X2_frame (x1 x2 : Int32) (σ : KS) : KR :=
    bnd (m_X2_frameOfPage x1 x2 σ) (fun r_3 σ_3 => some (r_3, σ_3))
def m_X2_removeProcess (x1 : Int32) (σ : KS) : KR :=
    chk x1 16 (bnd (m_X1r_givePlace (rd σ 15 x1) σ) (fun _ σ_10 => chk x1 16 (chk x1 16 (some (0, (wr (wr σ_10 11 x1 0) 12 x1 (-1)))))))
def f_X2_sharePages_2 : Nat → Int32 → Int32 → Int32 → KS → KR
  | 0, _, _, _, _ => none
  | n + 1, x1, x2, x3, σ =>
    chk x1 16 (if (rd σ 14 x1) ≤ x3 then
    chk x1 16 (chk x2 16 (some (0, (wr σ 14 x2 (rd σ 14 x1)))))
    else bnd (m_X2_frameOfPage x1 x3 σ) (fun r_15 σ_15 => bnd (m_X2_isFrame r_15 σ_15) (fun r_22 σ_22 => if r_22 = 0 then
    bnd (m_X2_pageIndex x2 x3 σ_22) (fun r_43 σ_43 => bnd (m_X2_setWord r_43 r_15 σ_43) (fun _ σ_48 => f_X2_sharePages_2 n x1 x2 (x3 + 1) σ_48))
    else chk r_15 128 (chk r_15 128 (bnd (m_X2_pageIndex x2 x3 (wr σ_22 9 r_15 ((rd σ_22 9 r_15) + 1))) (fun r_43 σ_43 => bnd (m_X2_setWord r_43 r_15 σ_43) (fun _ σ_48 => f_X2_sharePages_2 n x1 x2 (x3 + 1) σ_48)))))))
def m_X2_sharePages (x1 x2 : Int32) (σ : KS) : KR :=
    f_X2_sharePages_2 FU x1 x2 0 σ
def m_X2_takePageFrame (σ : KS) : KR :=
    bnd (m_X0_takeBlock 0 σ) (fun r_5 σ_5 => bnd (m_X2_isFrame r_5 σ_5) (fun r_10 σ_10 => if r_10 = 0 then
    some ((-1), σ_10)
    else chk r_5 128 (some (r_5, (wr σ_10 9 r_5 1)))))
def m_X2_wordIndex (x1 x2 : Int32) (σ : KS) : KR :=
    bnd (m_X2_pageOf x2 σ) (fun r_3 σ_3 => bnd (m_X2_frameOfPage x1 r_3 σ_3) (fun r_6 σ_6 => some (((r_6 * 64) + (x2 &&& 63)), σ_6)))
def m_X2_addTable (x1 x2 : Int32) (σ : KS) : KR :=
    bnd (m_X1t_takePlace σ) (fun r_4 σ_4 => if r_4 = (-1) then
    some (0, σ_4)
    else bnd (m_X2_tableIndex x1 x2 σ_4) (fun r_19 σ_19 => bnd (m_X2_setWord r_19 r_4 σ_19) (fun _ σ_23 => some (1, σ_23))))
def f_X2_leaveChildren_2 : Nat → Int32 → Int32 → KS → KR
  | 0, _, _, _ => none
  | n + 1, x1, x2, σ =>
    if 16 ≤ x2 then
    some (0, σ)
    else chk x2 16 (if (rd σ 12 x2) = x1 then
    chk x2 16 (if (rd σ 11 x2) = 2 then
    bnd (m_X2_removeProcess x2 σ) (fun _ σ_30 => f_X2_leaveChildren_2 n x1 (x2 + 1) σ_30)
    else chk x2 16 (f_X2_leaveChildren_2 n x1 (x2 + 1) (wr σ 12 x2 (-1))))
    else f_X2_leaveChildren_2 n x1 (x2 + 1) σ)
def m_X2_leaveChildren (x1 : Int32) (σ : KS) : KR :=
    f_X2_leaveChildren_2 FU x1 0 σ
def m_X2_load (x1 x2 : Int32) (σ : KS) : KR :=
    bnd (m_X2_pageOf x2 σ) (fun r_3 σ_3 => bnd (m_X2_hasPage x1 r_3 σ_3) (fun r_6 σ_6 => if r_6 = 0 then
    some (0, σ_6)
    else bnd (m_X2_wordIndex x1 x2 σ_6) (fun r_18 σ_18 => bnd (m_X2_wordAt r_18 σ_18) (fun r_21 σ_21 => some (r_21, σ_21)))))
def f_X2_ownPage_43 : Nat → Int32 → Int32 → Int32 → Int32 → Int32 → KS → KR
  | 0, _, _, _, _, _, _ => none
  | n + 1, x1, x2, x3, x4, x5, σ =>
    if 64 ≤ x5 then
    bnd (m_X2_dropPageFrame x3 σ) (fun _ σ_81 => bnd (m_X2_pageIndex x1 x2 σ_81) (fun r_88 σ_88 => bnd (m_X2_setWord r_88 x4 σ_88) (fun _ σ_93 => some (1, (sv σ_93 1 ((gv σ_93 1) + 1))))))
    else bnd (m_X2_wordAt ((x3 * 64) + x5) σ) (fun r_67 σ_67 => bnd (m_X2_setWord ((x4 * 64) + x5) r_67 σ_67) (fun _ σ_70 => f_X2_ownPage_43 n x1 x2 x3 x4 (x5 + 1) σ_70))
def m_X2_ownPage (x1 x2 : Int32) (σ : KS) : KR :=
    bnd (m_X2_frameOfPage x1 x2 σ) (fun r_3 σ_3 => bnd (m_X2_isFrame r_3 σ_3) (fun r_8 σ_8 => if r_8 = 0 then
    some (1, σ_8)
    else chk r_3 128 (if 2 ≤ (rd σ_8 9 r_3) then
    bnd (m_X2_takePageFrame σ_8) (fun r_27 σ_27 => if r_27 = (-1) then
    some (0, σ_27)
    else f_X2_ownPage_43 FU x1 x2 r_3 r_27 0 σ_27)
    else some (1, σ_8))))
def f_X2_reap_24 : Nat → Int32 → Int32 → KS → KR
  | 0, _, _, _ => none
  | n + 1, x1, x2, σ =>
    if 16 ≤ x2 then
    some ((-7), σ)
    else chk x2 16 (if (rd σ 12 x2) = x1 then
    chk x2 16 (if (rd σ 11 x2) = 2 then
    bnd (m_X2_removeProcess x2 σ) (fun _ σ_52 => chk x2 16 (some (((256 * x2) + ((rd σ_52 13 x2) &&& 255)), σ_52)))
    else f_X2_reap_24 n x1 (x2 + 1) σ)
    else f_X2_reap_24 n x1 (x2 + 1) σ)
def m_X2_reap (x1 : Int32) (σ : KS) : KR :=
    bnd (m_X2_isLive x1 σ) (fun r_2 σ_2 => if r_2 = 0 then
    some ((-2), σ_2)
    else bnd (m_X2_childrenOf x1 σ_2) (fun r_13 σ_13 => if r_13 = 0 then
    some ((-6), σ_13)
    else f_X2_reap_24 FU x1 0 σ_13))
def f_X2_shrinkTo_9 : Nat → Int32 → Int32 → Int32 → KS → KR
  | 0, _, _, _, _ => none
  | n + 1, x1, x2, x3, σ =>
    if x3 < x2 then
    some (0, σ)
    else bnd (m_X2_frameOfPage x1 x3 σ) (fun r_18 σ_18 => bnd (m_X2_dropPageFrame r_18 σ_18) (fun _ σ_21 => if (x3 - x3 / 16 * 16) = 0 then
    bnd (m_X2_dropTable x1 x3 σ_21) (fun _ σ_34 => chk x1 16 (f_X2_shrinkTo_9 n x1 x2 (x3 + (-1)) (wr σ_34 14 x1 x3)))
    else chk x1 16 (f_X2_shrinkTo_9 n x1 x2 (x3 + (-1)) (wr σ_21 14 x1 x3))))
def m_X2_shrinkTo (x1 x2 : Int32) (σ : KS) : KR :=
    chk x1 16 (f_X2_shrinkTo_9 FU x1 x2 ((rd σ 14 x1) - 1) σ)
def f_X2_addPage_55 : Nat → Int32 → Int32 → Int32 → Int32 → Int32 → KS → KR
  | 0, _, _, _, _, _, _ => none
  | n + 1, x1, x2, x3, x4, x5, σ =>
    if 64 ≤ x5 then
    bnd (m_X2_pageIndex x1 x2 σ) (fun r_85 σ_85 => bnd (m_X2_setWord r_85 x4 σ_85) (fun _ σ_90 => chk x1 16 (some (1, (wr σ_90 14 x1 (x2 + 1))))))
    else bnd (m_X2_setWord ((x4 * 64) + x5) 0 σ) (fun _ σ_72 => f_X2_addPage_55 n x1 x2 x3 x4 (x5 + 1) σ_72)
def m_X2_addPage (x1 x2 : Int32) (σ : KS) : KR :=
    if (x2 - x2 / 16 * 16) = 0 then
    bnd (m_X2_addTable x1 x2 σ) (fun r_20 σ_20 => if r_20 = 0 then
    some (0, σ_20)
    else bnd (m_X2_takePageFrame σ_20) (fun r_29 σ_29 => if r_29 = (-1) then
    bnd (m_X2_dropTable x1 x2 σ_29) (fun _ σ_47 => some (0, σ_47))
    else f_X2_addPage_55 FU x1 x2 1 r_29 0 σ_29))
    else bnd (m_X2_takePageFrame σ) (fun r_29 σ_29 => if r_29 = (-1) then
    some (0, σ_29)
    else f_X2_addPage_55 FU x1 x2 0 r_29 0 σ_29)
def m_X2_exit (x1 x2 : Int32) (σ : KS) : KR :=
    bnd (m_X2_isLive x1 σ) (fun r_2 σ_2 => if r_2 = 0 then
    some ((-2), σ_2)
    else bnd (m_X2_leaveRow x1 σ_2) (fun _ σ_13 => bnd (m_X2_shrinkTo x1 0 σ_13) (fun _ σ_19 => bnd (m_X2_leaveChildren x1 σ_19) (fun _ σ_24 => chk x1 16 (if (rd σ_24 12 x1) = (-1) then
    bnd (m_X2_removeProcess x1 σ_24) (fun _ σ_39 => some (0, σ_39))
    else chk x1 16 (chk x1 16 (some (0, (wr (wr σ_24 11 x1 2) 13 x1 x2)))))))))
def m_X2_store (x1 x2 x3 : Int32) (σ : KS) : KR :=
    bnd (m_X2_isLive x1 σ) (fun r_2 σ_2 => if r_2 = 0 then
    some ((-2), σ_2)
    else bnd (m_X2_pageOf x2 σ_2) (fun r_14 σ_14 => bnd (m_X2_hasPage x1 r_14 σ_14) (fun r_17 σ_17 => if r_17 = 0 then
    some ((-5), σ_17)
    else bnd (m_X2_pageOf x2 σ_17) (fun r_29 σ_29 => bnd (m_X2_ownPage x1 r_29 σ_29) (fun r_32 σ_32 => if r_32 = 0 then
    bnd (m_X2_refuse σ_32) (fun r_39 σ_39 => some (r_39, σ_39))
    else bnd (m_X2_wordIndex x1 x2 σ_32) (fun r_47 σ_47 => bnd (m_X2_setWord r_47 x3 σ_47) (fun _ σ_51 => some (0, σ_51))))))))
def f_X2_takeTables_22 : Nat → Int32 → Int32 → Int32 → Int32 → KS → KR
  | 0, _, _, _, _, _ => none
  | n + 1, x1, x2, x3, x4, σ =>
    if x4 < 0 then
    some (0, σ)
    else bnd (m_X2_dropTable x1 x4 σ) (fun _ σ_31 => f_X2_takeTables_22 n x1 x2 x3 (x4 + (-16)) σ_31)
def f_X2_takeTables_2 : Nat → Int32 → Int32 → Int32 → KS → KR
  | 0, _, _, _, _ => none
  | n + 1, x1, x2, x3, σ =>
    if x2 ≤ x3 then
    some (1, σ)
    else bnd (m_X2_addTable x1 x3 σ) (fun r_10 σ_10 => if r_10 = 0 then
    f_X2_takeTables_22 FU x1 x2 x3 (x3 - 16) σ_10
    else f_X2_takeTables_2 n x1 x2 (x3 + 16) σ_10)
def m_X2_takeTables (x1 x2 : Int32) (σ : KS) : KR :=
    f_X2_takeTables_2 FU x1 x2 0 σ
def f_X2_grow_44 : Nat → Int32 → Int32 → Int32 → Int32 → Int32 → KS → KR
  | 0, _, _, _, _, _, _ => none
  | n + 1, x1, x2, x3, x4, x5, σ =>
    if x4 ≤ x5 then
    bnd (m_X2_shrinkTo x1 x4 σ) (fun _ σ_82 => some (x3, σ_82))
    else bnd (m_X2_addPage x1 x5 σ) (fun r_55 σ_55 => if r_55 = 0 then
    bnd (m_X2_shrinkTo x1 x3 σ_55) (fun _ σ_64 => bnd (m_X2_refuse σ_64) (fun r_68 σ_68 => some (r_68, σ_68)))
    else f_X2_grow_44 n x1 x2 x3 x4 (x5 + 1) σ_55)
def m_X2_grow (x1 x2 : Int32) (σ : KS) : KR :=
    bnd (m_X2_isLive x1 σ) (fun r_2 σ_2 => if r_2 = 0 then
    some ((-2), σ_2)
    else chk x1 16 (if x2 < (-(rd σ_2 14 x1)) then
    some ((-2), σ_2)
    else if x2 ≤ (256 - (rd σ_2 14 x1)) then
    f_X2_grow_44 FU x1 x2 (rd σ_2 14 x1) ((rd σ_2 14 x1) + x2) (rd σ_2 14 x1) σ_2
    else some ((-2), σ_2)))
def m_X2_makeProcess (x1 : Int32) (σ : KS) : KR :=
    bnd (m_X2_leastUnused σ) (fun r_1 σ_1 => bnd (m_X2_isNumber r_1 σ_1) (fun r_6 σ_6 => if r_6 = 0 then
    some ((-4), σ_6)
    else bnd (m_X1r_takePlace σ_6) (fun r_19 σ_19 => if r_19 = (-1) then
    bnd (m_X2_refuse σ_19) (fun r_29 σ_29 => some (r_29, σ_29))
    else chk r_1 16 (bnd (m_X2_isLive x1 (wr σ_19 15 r_1 r_19)) (fun r_42 σ_42 => if r_42 = 0 then
    chk r_1 16 (chk r_1 16 (bnd (m_X2_joinRow r_1 (wr (wr σ_42 11 r_1 1) 12 r_1 x1)) (fun _ σ_97 => some (r_1, σ_97))))
    else chk x1 16 (bnd (m_X2_takeTables r_1 (rd σ_42 14 x1) σ_42) (fun r_56 σ_56 => if r_56 = 0 then
    bnd (m_X1r_givePlace r_19 σ_56) (fun _ σ_67 => bnd (m_X2_refuse σ_67) (fun r_71 σ_71 => some (r_71, σ_71)))
    else bnd (m_X2_sharePages x1 r_1 σ_56) (fun _ σ_78 => chk r_1 16 (chk r_1 16 (bnd (m_X2_joinRow r_1 (wr (wr σ_78 11 r_1 1) 12 r_1 x1)) (fun _ σ_97 => some (r_1, σ_97))))))))))))
def m_X2_fork (x1 : Int32) (σ : KS) : KR :=
    bnd (m_X2_isLive x1 σ) (fun r_2 σ_2 => if r_2 = 0 then
    some ((-2), σ_2)
    else bnd (m_X2_makeProcess x1 σ_2) (fun r_10 σ_10 => some (r_10, σ_10)))
def m_X2_spawn (σ : KS) : KR :=
    bnd (m_X2_makeProcess (-1) σ) (fun r_2 σ_2 => some (r_2, σ_2))
def m_X3_begin (x1 x2 x3 : Int32) (σ : KS) : KR :=
    chk x1 16 (chk x1 16 (chk x1 16 (chk x1 16 (chk (gv (wr (wr (wr (wr σ 6 x1 1) 10 x1 x2) 8 x1 x3) 7 x1 0) 0) 16 (some (0, (sv (wr (wr (wr (wr (wr σ 6 x1 1) 10 x1 x2) 8 x1 x3) 7 x1 0) 13 (gv (wr (wr (wr (wr σ 6 x1 1) 10 x1 x2) 8 x1 x3) 7 x1 0) 0) x1) 0 ((gv (wr (wr (wr (wr (wr σ 6 x1 1) 10 x1 x2) 8 x1 x3) 7 x1 0) 13 (gv (wr (wr (wr (wr σ 6 x1 1) 10 x1 x2) 8 x1 x3) 7 x1 0) 0) x1) 0) + 1))))))))
def m_X3_current (σ : KS) : KR :=
    if (gv σ 0) = 0 then
    some ((-1), σ)
    else chk 0 16 (some ((rd σ 13 0), σ))
def f_X3_fail_56 : Nat → Int32 → KS → KR
  | 0, _, _ => none
  | n + 1, x1, σ =>
    if 512 ≤ x1 then
    some ((-3), (sv σ 2 ((gv σ 2) + 1)))
    else chk x1 512 (chk x1 512 (zchk (rd σ 16 x1) (f_X3_fail_56 n (x1 + 1) (wr σ 3 x1 (rd σ 16 x1)))))
def f_X3_fail_29 : Nat → Int32 → KS → KR
  | 0, _, _ => none
  | n + 1, x1, σ =>
    if 128 ≤ x1 then
    f_X3_fail_56 FU 0 σ
    else chk x1 128 (chk x1 128 (f_X3_fail_29 n (x1 + 1) (wr σ 2 x1 (rd σ 15 x1))))
def f_X3_fail_2 : Nat → Int32 → KS → KR
  | 0, _, _ => none
  | n + 1, x1, σ =>
    if 1024 ≤ x1 then
    f_X3_fail_29 FU 0 σ
    else chk x1 1024 (chk x1 1024 (zchk (rd σ 14 x1) (f_X3_fail_2 n (x1 + 1) (wr σ 1 x1 (rd σ 14 x1)))))
def m_X3_fail (σ : KS) : KR :=
    f_X3_fail_2 FU 0 σ
def f_X3_free_30 : Nat → Int32 → Int32 → Int32 → Int32 → Int32 → KS → KR
  | 0, _, _, _, _, _, _ => none
  | n + 1, x1, x2, x3, x4, x5, σ =>
    if 128 ≤ x5 then
    if x2 = 0 then
    some (x3, σ)
    else some (x4, σ)
    else chk ((128 * x1) + x5) 1024 (if (rd σ 1 ((128 * x1) + x5)) = 0 then
    f_X3_free_30 n x1 x2 x3 x4 (x5 + 1) σ
    else if 0 ≤ x4 then
    f_X3_free_30 n x1 x2 (x3 + 1) x4 (x5 + 1) σ
    else f_X3_free_30 n x1 x2 (x3 + 1) x5 (x5 + 1) σ)
def m_X3_free (x1 x2 : Int32) (σ : KS) : KR :=
    if x1 < 0 then
    some ((-2), σ)
    else if 8 ≤ x1 then
    some ((-2), σ)
    else if x2 < 0 then
    some ((-2), σ)
    else if x2 ≤ 1 then
    f_X3_free_30 FU x1 x2 0 (-1) 0 σ
    else some ((-2), σ)
def f_X3_freeFrames_4 : Nat → Int32 → Int32 → KS → KR
  | 0, _, _, _ => none
  | n + 1, x1, x2, σ =>
    if 128 ≤ x2 then
    some (x1, σ)
    else chk x2 128 (if (rd σ 2 x2) = 0 then
    f_X3_freeFrames_4 n (x1 + 1) (x2 + 1) σ
    else f_X3_freeFrames_4 n (x1 + 0) (x2 + 1) σ)
def m_X3_freeFrames (σ : KS) : KR :=
    f_X3_freeFrames_4 FU 0 0 σ
def f_X3_freePlace_4 : Nat → Int32 → Int32 → KS → KR
  | 0, _, _, _ => none
  | n + 1, x1, x2, σ =>
    if ((4 * x1) + 4) ≤ x2 then
    some ((-1), σ)
    else chk x2 512 (if (rd σ 3 x2) = 0 then
    some (x2, σ)
    else f_X3_freePlace_4 n x1 (x2 + 1) σ)
def m_X3_freePlace (x1 : Int32) (σ : KS) : KR :=
    f_X3_freePlace_4 FU x1 (4 * x1) σ
def f_X3_giveBlock_32 : Nat → Int32 → Int32 → Int32 → Int32 → Int32 → KS → KR
  | 0, _, _, _, _, _, _ => none
  | n + 1, x1, x2, x3, x4, x5, σ =>
    if 7 ≤ x4 then
    chk ((128 * x4) + x3) 1024 (zchk 1 (some (0, (wr σ 1 ((128 * x4) + x3) 1))))
    else chk ((128 * x4) + (x3 ^^^ ((1 : Int32) <<< (x4 &&& 31)))) 1024 (if (rd σ 1 ((128 * x4) + (x3 ^^^ ((1 : Int32) <<< (x4 &&& 31))))) = 0 then
    chk ((128 * x4) + x3) 1024 (zchk 1 (some (0, (wr σ 1 ((128 * x4) + x3) 1))))
    else chk ((128 * x4) + (x3 ^^^ ((1 : Int32) <<< (x4 &&& 31)))) 1024 (zchk 0 (f_X3_giveBlock_32 n x1 x2 (x3 &&& (((1 : Int32) <<< (x4 &&& 31)) ^^^ (-1))) (x4 + 1) x5 (wr σ 1 ((128 * x4) + (x3 ^^^ ((1 : Int32) <<< (x4 &&& 31)))) 0))))
def f_X3_giveBlock_8 : Nat → Int32 → Int32 → Int32 → Int32 → Int32 → KS → KR
  | 0, _, _, _, _, _, _ => none
  | n + 1, x1, x2, x3, x4, x5, σ =>
    if (x1 + ((1 : Int32) <<< (x2 &&& 31))) ≤ x5 then
    f_X3_giveBlock_32 FU x1 x2 x3 x4 x5 σ
    else chk x5 128 (f_X3_giveBlock_8 n x1 x2 x3 x4 (x5 + 1) (wr σ 2 x5 0))
def m_X3_giveBlock (x1 x2 : Int32) (σ : KS) : KR :=
    f_X3_giveBlock_8 FU x1 x2 x1 x2 x1 σ
def m_X3_isLive (x1 : Int32) (σ : KS) : KR :=
    if x1 < 0 then
    some (0, σ)
    else if 16 ≤ x1 then
    some (0, σ)
    else chk x1 16 (if (rd σ 6 x1) = 1 then
    some (1, σ)
    else some (0, σ))
def f_X3_layAside_56 : Nat → Int32 → KS → KR
  | 0, _, _ => none
  | n + 1, x1, σ =>
    if 512 ≤ x1 then
    some (0, σ)
    else chk x1 512 (chk x1 512 (zchk (rd σ 3 x1) (f_X3_layAside_56 n (x1 + 1) (wr σ 16 x1 (rd σ 3 x1)))))
def f_X3_layAside_29 : Nat → Int32 → KS → KR
  | 0, _, _ => none
  | n + 1, x1, σ =>
    if 128 ≤ x1 then
    f_X3_layAside_56 FU 0 σ
    else chk x1 128 (chk x1 128 (f_X3_layAside_29 n (x1 + 1) (wr σ 15 x1 (rd σ 2 x1))))
def f_X3_layAside_2 : Nat → Int32 → KS → KR
  | 0, _, _ => none
  | n + 1, x1, σ =>
    if 1024 ≤ x1 then
    f_X3_layAside_29 FU 0 σ
    else chk x1 1024 (chk x1 1024 (zchk (rd σ 1 x1) (f_X3_layAside_2 n (x1 + 1) (wr σ 14 x1 (rd σ 1 x1)))))
def m_X3_layAside (σ : KS) : KR :=
    f_X3_layAside_2 FU 0 σ
def f_X3_placeInRow_2 : Nat → Int32 → Int32 → KS → KR
  | 0, _, _, _ => none
  | n + 1, x1, x2, σ =>
    if (gv σ 0) ≤ x2 then
    some ((-1), σ)
    else chk x2 16 (if (rd σ 13 x2) = x1 then
    some (x2, σ)
    else f_X3_placeInRow_2 n x1 (x2 + 1) σ)
def m_X3_placeInRow (x1 : Int32) (σ : KS) : KR :=
    f_X3_placeInRow_2 FU x1 0 σ
def f_X3_smallIn_6 : Nat → Int32 → Int32 → Int32 → KS → KR
  | 0, _, _, _, _ => none
  | n + 1, x1, x2, x3, σ =>
    if ((4 * x1) + 4) ≤ x3 then
    some (x2, σ)
    else chk x3 512 (if (rd σ 3 x3) = 0 then
    f_X3_smallIn_6 n x1 (x2 + 0) (x3 + 1) σ
    else f_X3_smallIn_6 n x1 (x2 + 1) (x3 + 1) σ)
def m_X3_smallIn (x1 : Int32) (σ : KS) : KR :=
    f_X3_smallIn_6 FU x1 0 (4 * x1) σ
def f_X3_takeBlock_50 : Nat → Int32 → Int32 → Int32 → Int32 → KS → KR
  | 0, _, _, _, _, _ => none
  | n + 1, x1, x2, x3, x4, σ =>
    if x4 < x1 then
    some (x3, σ)
    else chk (((128 * x4) + x3) + ((1 : Int32) <<< (x4 &&& 31))) 1024 (zchk 1 (f_X3_takeBlock_50 n x1 x2 x3 (x4 + (-1)) (wr σ 1 (((128 * x4) + x3) + ((1 : Int32) <<< (x4 &&& 31))) 1)))
def f_X3_takeBlock_10 (kk : Int32 → Int32 → KS → KR) : Nat → Int32 → Int32 → Int32 → KS → KR
  | 0, _, _, _, _ => none
  | n + 1, x1, x2, x3, σ =>
    if 128 ≤ x3 then
    kk x1 (x2 + 1) σ
    else chk ((128 * x2) + x3) 1024 (if (rd σ 1 ((128 * x2) + x3)) = 0 then
    f_X3_takeBlock_10 kk n x1 x2 (x3 + 1) σ
    else chk ((128 * x2) + x3) 1024 (zchk 0 (f_X3_takeBlock_50 FU x1 x2 x3 (x2 - 1) (wr σ 1 ((128 * x2) + x3) 0))))
def f_X3_takeBlock_2 : Nat → Int32 → Int32 → KS → KR
  | 0, _, _, _ => none
  | n + 1, x1, x2, σ =>
    if 8 ≤ x2 then
    some ((-1), σ)
    else f_X3_takeBlock_10 (fun y1 y2 σ => f_X3_takeBlock_2 n y1 y2 σ) FU x1 x2 0 σ
def m_X3_takeBlock (x1 : Int32) (σ : KS) : KR :=
    f_X3_takeBlock_2 FU x1 x1 σ
def f_X3_tick_28 : Nat → Int32 → Int32 → KS → KR
  | 0, _, _, _ => none
  | n + 1, x1, x2, σ =>
    if (gv σ 0) ≤ (x2 + 1) then
    chk ((gv σ 0) - 1) 16 (chk 0 16 (some ((rd (wr σ 13 ((gv σ 0) - 1) x1) 13 0), (wr σ 13 ((gv σ 0) - 1) x1))))
    else chk (x2 + 1) 16 (chk x2 16 (f_X3_tick_28 n x1 (x2 + 1) (wr σ 13 x2 (rd σ 13 (x2 + 1)))))
def m_X3_tick (σ : KS) : KR :=
    if (gv σ 0) = 0 then
    some ((-1), σ)
    else chk 0 16 (f_X3_tick_28 FU (rd (sv σ 3 ((gv σ 3) + 1)) 13 0) 0 (sv σ 3 ((gv σ 3) + 1)))
def f_X3_told_19 : Nat → Int32 → Int32 → Int32 → Int32 → KS → KR
  | 0, _, _, _, _, _ => none
  | n + 1, x1, x2, x3, x4, σ =>
    if 16 ≤ x4 then
    if x1 = 0 then
    some (x2, σ)
    else if x1 = 1 then
    some (x3, σ)
    else if x1 = 2 then
    some ((gv σ 1), σ)
    else if x1 = 3 then
    some ((gv σ 2), σ)
    else some ((gv σ 3), σ)
    else chk x4 16 (if (rd σ 6 x4) = 1 then
    chk x4 16 (if (rd σ 6 x4) = 2 then
    f_X3_told_19 n x1 (x2 + 1) (x3 + 1) (x4 + 1) σ
    else f_X3_told_19 n x1 (x2 + 1) (x3 + 0) (x4 + 1) σ)
    else chk x4 16 (if (rd σ 6 x4) = 2 then
    f_X3_told_19 n x1 (x2 + 0) (x3 + 1) (x4 + 1) σ
    else f_X3_told_19 n x1 (x2 + 0) (x3 + 0) (x4 + 1) σ))
def m_X3_told (x1 : Int32) (σ : KS) : KR :=
    if x1 < 0 then
    some ((-2), σ)
    else if x1 ≤ 4 then
    f_X3_told_19 FU x1 0 0 0 σ
    else some ((-2), σ)
def f_X3_unusedNumber_2 : Nat → Int32 → KS → KR
  | 0, _, _ => none
  | n + 1, x1, σ =>
    if 16 ≤ x1 then
    some ((-1), σ)
    else chk x1 16 (if (rd σ 6 x1) = 0 then
    some (x1, σ)
    else f_X3_unusedNumber_2 n (x1 + 1) σ)
def m_X3_unusedNumber (σ : KS) : KR :=
    f_X3_unusedNumber_2 FU 0 σ
def f_X3_users_13 (kk : Int32 → Int32 → Int32 → KS → KR) : Nat → Int32 → Int32 → Int32 → Int32 → KS → KR
  | 0, _, _, _, _, _ => none
  | n + 1, x1, x2, x3, x4, σ =>
    chk x3 16 (if (rd σ 7 x3) ≤ x4 then
    kk x1 x2 (x3 + 1) σ
    else chk x3 16 (if (rd σ 6 x3) = 1 then
    chk ((256 * x3) + x4) 4096 (if (rd σ 11 ((256 * x3) + x4)) = x1 then
    f_X3_users_13 kk n x1 (x2 + 1) x3 (x4 + 1) σ
    else f_X3_users_13 kk n x1 (x2 + 0) x3 (x4 + 1) σ)
    else kk x1 x2 (x3 + 1) σ))
def f_X3_users_4 : Nat → Int32 → Int32 → Int32 → KS → KR
  | 0, _, _, _, _ => none
  | n + 1, x1, x2, x3, σ =>
    if 16 ≤ x3 then
    some (x2, σ)
    else f_X3_users_13 (fun y1 y2 y3 σ => f_X3_users_4 n y1 y2 y3 σ) FU x1 x2 x3 0 σ
def m_X3_users (x1 : Int32) (σ : KS) : KR :=
    f_X3_users_4 FU x1 0 0 σ
def m_X3_about (x1 x2 : Int32) (σ : KS) : KR :=
    if x1 < 0 then
    some ((-2), σ)
    else if 128 ≤ x1 then
    some ((-2), σ)
    else if x2 < 0 then
    some ((-2), σ)
    else if x2 ≤ 1 then
    if x2 = 0 then
    chk x1 128 (some ((rd σ 2 x1), σ))
    else chk x1 128 (if (rd σ 2 x1) = 1 then
    bnd (m_X3_smallIn x1 σ) (fun r_56 σ_56 => some (r_56, σ_56))
    else chk x1 128 (if (rd σ 2 x1) = 2 then
    bnd (m_X3_smallIn x1 σ) (fun r_56 σ_56 => some (r_56, σ_56))
    else chk x1 128 (if (rd σ 2 x1) = 3 then
    bnd (m_X3_users x1 σ) (fun r_74 σ_74 => some (r_74, σ_74))
    else some (0, σ))))
    else some ((-2), σ)
def f_X3_block_41 : Nat → Int32 → Int32 → Int32 → KS → KR
  | 0, _, _, _, _ => none
  | n + 1, x1, x2, x3, σ =>
    if (x2 + ((1 : Int32) <<< (x1 &&& 31))) ≤ x3 then
    some (x2, σ)
    else chk x3 128 (f_X3_block_41 n x1 x2 (x3 + 1) (wr σ 2 x3 4))
def m_X3_block (x1 : Int32) (σ : KS) : KR :=
    if x1 < 0 then
    some ((-2), σ)
    else if x1 < 8 then
    bnd (m_X3_layAside σ) (fun _ σ_14 => bnd (m_X3_takeBlock x1 σ_14) (fun r_19 σ_19 => if 0 ≤ r_19 then
    chk r_19 128 (f_X3_block_41 FU x1 r_19 r_19 (wr σ_19 5 r_19 x1))
    else bnd (m_X3_fail σ_19) (fun r_28 σ_28 => some (r_28, σ_28))))
    else some ((-2), σ)
def m_X3_frame (x1 x2 : Int32) (σ : KS) : KR :=
    bnd (m_X3_isLive x1 σ) (fun r_2 σ_2 => if r_2 = 0 then
    some ((-1), σ_2)
    else if x2 < 0 then
    some ((-1), σ_2)
    else chk x1 16 (if (rd σ_2 7 x1) ≤ x2 then
    some ((-1), σ_2)
    else chk ((256 * x1) + x2) 4096 (some ((rd σ_2 11 ((256 * x1) + x2)), σ_2))))
def m_X3_giveSmall (x1 : Int32) (σ : KS) : KR :=
    chk x1 512 (zchk 0 (bnd (m_X3_smallIn (x1 / 4) (wr σ 3 x1 0)) (fun r_11 σ_11 => if r_11 = 0 then
    bnd (m_X3_giveBlock (x1 / 4) 0 σ_11) (fun _ σ_22 => some (0, σ_22))
    else some (0, σ_11))))
def m_X3_has (x1 x2 : Int32) (σ : KS) : KR :=
    bnd (m_X3_isLive x1 σ) (fun r_2 σ_2 => if r_2 = 0 then
    some (0, σ_2)
    else if x2 < 0 then
    some (0, σ_2)
    else chk x1 16 (if (rd σ_2 7 x1) ≤ (x2 / 64) then
    some (0, σ_2)
    else some (1, σ_2)))
def f_X3_process_27 : Nat → Int32 → Int32 → Int32 → Int32 → KS → KR
  | 0, _, _, _, _, _ => none
  | n + 1, x1, x2, x3, x4, σ =>
    if 16 ≤ x4 then
    if x2 = 0 then
    chk x1 16 (some ((rd σ 6 x1), σ))
    else if x2 = 1 then
    chk x1 16 (if (rd σ 6 x1) = 1 then
    chk x1 16 (some ((rd σ 7 x1), σ))
    else some (0, σ))
    else if x2 = 2 then
    chk x1 16 (if (rd σ 6 x1) = 0 then
    some ((-1), σ)
    else chk x1 16 (some ((rd σ 8 x1), σ)))
    else if x2 = 3 then
    some (x3, σ)
    else bnd (m_X3_placeInRow x1 σ) (fun r_152 σ_152 => some (r_152, σ_152))
    else chk x4 16 (if (rd σ 6 x4) = 0 then
    f_X3_process_27 n x1 x2 (x3 + 0) (x4 + 1) σ
    else chk x4 16 (if (rd σ 8 x4) = x1 then
    f_X3_process_27 n x1 x2 (x3 + 1) (x4 + 1) σ
    else f_X3_process_27 n x1 x2 (x3 + 0) (x4 + 1) σ))
def m_X3_process (x1 x2 : Int32) (σ : KS) : KR :=
    if x1 < 0 then
    some ((-2), σ)
    else if 16 ≤ x1 then
    some ((-2), σ)
    else if x2 < 0 then
    some ((-2), σ)
    else if x2 ≤ 4 then
    f_X3_process_27 FU x1 x2 0 0 σ
    else some ((-2), σ)
def m_X3_takeFrame (x1 : Int32) (σ : KS) : KR :=
    bnd (m_X3_takeBlock 0 σ) (fun r_2 σ_2 => if r_2 < 0 then
    some (r_2, σ_2)
    else chk r_2 128 (some (r_2, (wr σ_2 2 r_2 x1))))
def m_X3_unblock (x1 : Int32) (σ : KS) : KR :=
    if x1 < 0 then
    some ((-2), σ)
    else if 128 ≤ x1 then
    some ((-2), σ)
    else chk x1 128 (if 0 ≤ (rd σ 5 x1) then
    chk x1 128 (chk x1 128 (bnd (m_X3_giveBlock x1 (rd σ 5 x1) (wr σ 5 x1 (-1))) (fun _ σ_40 => some ((rd σ 5 x1), σ_40))))
    else some ((-2), σ))
def m_X3_dropPage (x1 : Int32) (σ : KS) : KR :=
    chk x1 16 (chk ((256 * x1) + ((rd σ 7 x1) - 1)) 4096 (bnd (m_X3_users (rd σ 11 ((256 * x1) + ((rd σ 7 x1) - 1))) σ) (fun r_24 σ_24 => if r_24 = 1 then
    bnd (m_X3_giveBlock (rd σ 11 ((256 * x1) + ((rd σ 7 x1) - 1))) 0 σ_24) (fun _ σ_34 => chk x1 16 (if (((rd σ 7 x1) - 1) - ((rd σ 7 x1) - 1) / 16 * 16) = 0 then
    chk ((16 * x1) + (((rd σ 7 x1) - 1) / 16)) 256 (bnd (m_X3_giveSmall (rd (wr σ_34 7 x1 ((rd σ 7 x1) - 1)) 12 ((16 * x1) + (((rd σ 7 x1) - 1) / 16))) (wr σ_34 7 x1 ((rd σ 7 x1) - 1))) (fun _ σ_66 => some (0, σ_66)))
    else some (0, (wr σ_34 7 x1 ((rd σ 7 x1) - 1)))))
    else chk x1 16 (if (((rd σ 7 x1) - 1) - ((rd σ 7 x1) - 1) / 16 * 16) = 0 then
    chk ((16 * x1) + (((rd σ 7 x1) - 1) / 16)) 256 (bnd (m_X3_giveSmall (rd (wr σ_24 7 x1 ((rd σ 7 x1) - 1)) 12 ((16 * x1) + (((rd σ 7 x1) - 1) / 16))) (wr σ_24 7 x1 ((rd σ 7 x1) - 1))) (fun _ σ_66 => some (0, σ_66)))
    else some (0, (wr σ_24 7 x1 ((rd σ 7 x1) - 1)))))))
def m_X3_load (x1 x2 : Int32) (σ : KS) : KR :=
    bnd (m_X3_has x1 x2 σ) (fun r_3 σ_3 => if r_3 = 0 then
    some (0, σ_3)
    else chk ((256 * x1) + (x2 / 64)) 4096 (chk ((64 * (rd σ_3 11 ((256 * x1) + (x2 / 64)))) + (x2 - x2 / 64 * 64)) 8192 (some ((rd σ_3 4 ((64 * (rd σ_3 11 ((256 * x1) + (x2 / 64)))) + (x2 - x2 / 64 * 64))), σ_3))))
def f_X3_store_78 : Nat → Int32 → Int32 → Int32 → Int32 → Int32 → Int32 → Int32 → KS → KR
  | 0, _, _, _, _, _, _, _, _ => none
  | n + 1, x1, x2, x3, x4, x5, x6, x7, σ =>
    if 64 ≤ x7 then
    chk x4 4096 (chk ((64 * x6) + (x2 - x2 / 64 * 64)) 8192 (some (0, (wr (wr (sv σ 1 ((gv σ 1) + 1)) 11 x4 x6) 4 ((64 * x6) + (x2 - x2 / 64 * 64)) x3))))
    else chk ((64 * x5) + x7) 8192 (chk ((64 * x6) + x7) 8192 (f_X3_store_78 n x1 x2 x3 x4 x5 x6 (x7 + 1) (wr σ 4 ((64 * x6) + x7) (rd σ 4 ((64 * x5) + x7)))))
def m_X3_store (x1 x2 x3 : Int32) (σ : KS) : KR :=
    bnd (m_X3_isLive x1 σ) (fun r_2 σ_2 => if r_2 = 0 then
    some ((-2), σ_2)
    else bnd (m_X3_has x1 x2 σ_2) (fun r_14 σ_14 => if r_14 = 0 then
    some ((-5), σ_14)
    else chk ((256 * x1) + (x2 / 64)) 4096 (bnd (m_X3_users (rd σ_14 11 ((256 * x1) + (x2 / 64))) σ_14) (fun r_47 σ_47 => if r_47 ≤ 1 then
    chk ((64 * (rd σ_14 11 ((256 * x1) + (x2 / 64)))) + (x2 - x2 / 64 * 64)) 8192 (some (0, (wr σ_47 4 ((64 * (rd σ_14 11 ((256 * x1) + (x2 / 64)))) + (x2 - x2 / 64 * 64)) x3)))
    else bnd (m_X3_layAside σ_47) (fun _ σ_55 => bnd (m_X3_takeFrame 3 σ_55) (fun r_60 σ_60 => if 0 ≤ r_60 then
    f_X3_store_78 FU x1 x2 x3 ((256 * x1) + (x2 / 64)) (rd σ_14 11 ((256 * x1) + (x2 / 64))) r_60 0 σ_60
    else bnd (m_X3_fail σ_60) (fun r_71 σ_71 => some (r_71, σ_71))))))))
def f_X3_takeSmall_4 : Nat → Int32 → Int32 → Int32 → KS → KR
  | 0, _, _, _, _ => none
  | n + 1, x1, x2, x3, σ =>
    if 128 ≤ x3 then
    if 0 ≤ x2 then
    if x2 < 0 then
    some (x2, σ)
    else chk x2 512 (zchk 1 (some (x2, (wr σ 3 x2 1))))
    else bnd (m_X3_takeFrame x1 σ) (fun r_47 σ_47 => if 0 ≤ r_47 then
    if (4 * r_47) < 0 then
    some ((4 * r_47), σ_47)
    else chk (4 * r_47) 512 (zchk 1 (some ((4 * r_47), (wr σ_47 3 (4 * r_47) 1))))
    else some ((-1), σ_47))
    else if 0 ≤ x2 then
    if 0 ≤ x2 then
    if x2 < 0 then
    some (x2, σ)
    else chk x2 512 (zchk 1 (some (x2, (wr σ 3 x2 1))))
    else bnd (m_X3_takeFrame x1 σ) (fun r_47 σ_47 => if 0 ≤ r_47 then
    if (4 * r_47) < 0 then
    some ((4 * r_47), σ_47)
    else chk (4 * r_47) 512 (zchk 1 (some ((4 * r_47), (wr σ_47 3 (4 * r_47) 1))))
    else some ((-1), σ_47))
    else chk x3 128 (if (rd σ 2 x3) = x1 then
    bnd (m_X3_freePlace x3 σ) (fun r_27 σ_27 => f_X3_takeSmall_4 n x1 r_27 (x3 + 1) σ_27)
    else f_X3_takeSmall_4 n x1 (-1) (x3 + 1) σ)
def m_X3_takeSmall (x1 : Int32) (σ : KS) : KR :=
    f_X3_takeSmall_4 FU x1 (-1) 0 σ
def m_X3_vanish (x1 : Int32) (σ : KS) : KR :=
    chk x1 16 (chk x1 16 (bnd (m_X3_giveSmall (rd (wr σ 6 x1 0) 10 x1) (wr σ 6 x1 0)) (fun _ σ_14 => some (0, σ_14))))
def f_X3_exit_81 : Nat → Int32 → Int32 → Int32 → Int32 → KS → KR
  | 0, _, _, _, _, _ => none
  | n + 1, x1, x2, x3, x4, σ =>
    if 16 ≤ x4 then
    chk x1 16 (if (rd σ 8 x1) = (-1) then
    bnd (m_X3_vanish x1 σ) (fun _ σ_152 => some (0, σ_152))
    else chk x1 16 (chk x1 16 (some (0, (wr (wr σ 6 x1 2) 9 x1 x2)))))
    else chk x4 16 (if (rd σ 6 x4) = 0 then
    f_X3_exit_81 n x1 x2 x3 (x4 + 1) σ
    else chk x4 16 (if (rd σ 8 x4) = x1 then
    chk x4 16 (if (rd σ 6 x4) = 2 then
    bnd (m_X3_vanish x4 σ) (fun _ σ_123 => chk x4 16 (f_X3_exit_81 n x1 x2 x3 (x4 + 1) (wr σ_123 8 x4 (-1))))
    else chk x4 16 (f_X3_exit_81 n x1 x2 x3 (x4 + 1) (wr σ 8 x4 (-1))))
    else f_X3_exit_81 n x1 x2 x3 (x4 + 1) σ))
def f_X3_exit_61 : Nat → Int32 → Int32 → Int32 → Int32 → KS → KR
  | 0, _, _, _, _, _ => none
  | n + 1, x1, x2, x3, x4, σ =>
    chk x1 16 (if (rd σ 7 x1) ≤ 0 then
    f_X3_exit_81 FU x1 x2 x3 0 σ
    else bnd (m_X3_dropPage x1 σ) (fun _ σ_72 => f_X3_exit_61 n x1 x2 x3 x4 σ_72))
def f_X3_exit_30 : Nat → Int32 → Int32 → Int32 → Int32 → KS → KR
  | 0, _, _, _, _, _ => none
  | n + 1, x1, x2, x3, x4, σ =>
    if (gv σ 0) ≤ x4 then
    f_X3_exit_61 FU x1 x2 x3 x4 σ
    else chk (x4 + 1) 16 (chk x4 16 (f_X3_exit_30 n x1 x2 x3 (x4 + 1) (wr σ 13 x4 (rd σ 13 (x4 + 1)))))
def m_X3_exit (x1 x2 : Int32) (σ : KS) : KR :=
    bnd (m_X3_isLive x1 σ) (fun r_2 σ_2 => if r_2 = 0 then
    some ((-2), σ_2)
    else bnd (m_X3_placeInRow x1 σ_2) (fun r_13 σ_13 => f_X3_exit_30 FU x1 x2 r_13 r_13 (sv σ_13 0 ((gv σ_13 0) - 1))))
def f_X3_fork_131 : Nat → Int32 → Int32 → Int32 → Int32 → Int32 → KS → KR
  | 0, _, _, _, _, _, _ => none
  | n + 1, x1, x2, x3, x4, x5, σ =>
    chk x2 16 (if (rd σ 7 x2) ≤ x5 then
    some (x2, σ)
    else chk ((256 * x1) + x5) 4096 (chk ((256 * x2) + x5) 4096 (f_X3_fork_131 n x1 x2 x3 x4 (x5 + 1) (wr σ 11 ((256 * x2) + x5) (rd σ 11 ((256 * x1) + x5))))))
def f_X3_fork_59 : Nat → Int32 → Int32 → Int32 → Int32 → Int32 → KS → KR
  | 0, _, _, _, _, _, _ => none
  | n + 1, x1, x2, x3, x4, x5, σ =>
    if x4 ≤ x5 then
    bnd (m_X3_begin x2 x3 x1 σ) (fun _ σ_113 => chk x1 16 (chk x2 16 (f_X3_fork_131 FU x1 x2 x3 x4 0 (wr σ_113 7 x2 (rd σ_113 7 x1)))))
    else bnd (m_X3_takeSmall 2 σ) (fun r_79 σ_79 => chk ((16 * x2) + x5) 256 (chk ((16 * x2) + x5) 256 (if 0 ≤ (rd (wr σ_79 12 ((16 * x2) + x5) r_79) 12 ((16 * x2) + x5)) then
    f_X3_fork_59 n x1 x2 x3 x4 (x5 + 1) (wr σ_79 12 ((16 * x2) + x5) r_79)
    else bnd (m_X3_fail (wr σ_79 12 ((16 * x2) + x5) r_79)) (fun r_99 σ_99 => some (r_99, σ_99)))))
def m_X3_fork (x1 : Int32) (σ : KS) : KR :=
    bnd (m_X3_isLive x1 σ) (fun r_2 σ_2 => if r_2 = 0 then
    some ((-2), σ_2)
    else bnd (m_X3_unusedNumber σ_2) (fun r_12 σ_12 => if 0 ≤ r_12 then
    bnd (m_X3_layAside σ_12) (fun _ σ_24 => bnd (m_X3_takeSmall 1 σ_24) (fun r_29 σ_29 => if 0 ≤ r_29 then
    chk x1 16 (f_X3_fork_59 FU x1 r_12 r_29 (((rd σ_29 7 x1) + 15) / 16) 0 σ_29)
    else bnd (m_X3_fail σ_29) (fun r_38 σ_38 => some (r_38, σ_38))))
    else some ((-4), σ_12)))
def f_X3_grow_197 (kk : Int32 → Int32 → Int64 → Int32 → Int32 → KS → KR) : Nat → Int32 → Int32 → Int64 → Int32 → Int32 → Int32 → KS → KR
  | 0, _, _, _, _, _, _, _ => none
  | n + 1, x1, x2, x3, x5, x6, x7, σ =>
    if 64 ≤ x7 then
    kk x1 x2 x3 x5 (x6 + 1) σ
    else chk ((256 * x1) + x6) 4096 (chk ((64 * (rd σ 11 ((256 * x1) + x6))) + x7) 8192 (f_X3_grow_197 kk n x1 x2 x3 x5 x6 (x7 + 1) (wr σ 4 ((64 * (rd σ 11 ((256 * x1) + x6))) + x7) 0)))
def f_X3_grow_186 : Nat → Int32 → Int32 → Int64 → Int32 → Int32 → KS → KR
  | 0, _, _, _, _, _, _ => none
  | n + 1, x1, x2, x3, x5, x6, σ =>
    if 0 ≤ (lg_cmp x6.toInt64 x3) then
    chk x1 16 (some (x5, (wr σ 7 x1 x3.toInt32)))
    else f_X3_grow_197 (fun y1 y2 y3 y5 y6 σ => f_X3_grow_186 n y1 y2 y3 y5 y6 σ) FU x1 x2 x3 x5 x6 0 σ
def f_X3_grow_85 : Nat → Int32 → Int32 → Int64 → Int32 → Int32 → KS → KR
  | 0, _, _, _, _, _, _ => none
  | n + 1, x1, x2, x3, x5, x6, σ =>
    if 0 ≤ (lg_cmp x6.toInt64 x3) then
    f_X3_grow_186 FU x1 x2 x3 x5 x5 σ
    else if (x6 - x6 / 16 * 16) = 0 then
    bnd (m_X3_takeSmall 2 σ) (fun r_117 σ_117 => chk ((16 * x1) + (x6 / 16)) 256 (chk ((16 * x1) + (x6 / 16)) 256 (if 0 ≤ (rd (wr σ_117 12 ((16 * x1) + (x6 / 16)) r_117) 12 ((16 * x1) + (x6 / 16))) then
    bnd (m_X3_takeFrame 3 (wr σ_117 12 ((16 * x1) + (x6 / 16)) r_117)) (fun r_146 σ_146 => if 0 ≤ r_146 then
    chk ((256 * x1) + x6) 4096 (f_X3_grow_85 n x1 x2 x3 x5 (x6 + 1) (wr σ_146 11 ((256 * x1) + x6) r_146))
    else bnd (m_X3_fail σ_146) (fun r_157 σ_157 => some (r_157, σ_157)))
    else bnd (m_X3_fail (wr σ_117 12 ((16 * x1) + (x6 / 16)) r_117)) (fun r_140 σ_140 => some (r_140, σ_140)))))
    else bnd (m_X3_takeFrame 3 σ) (fun r_146 σ_146 => if 0 ≤ r_146 then
    chk ((256 * x1) + x6) 4096 (f_X3_grow_85 n x1 x2 x3 x5 (x6 + 1) (wr σ_146 11 ((256 * x1) + x6) r_146))
    else bnd (m_X3_fail σ_146) (fun r_157 σ_157 => some (r_157, σ_157)))
def f_X3_grow_54 : Nat → Int32 → Int32 → Int64 → Int32 → KS → KR
  | 0, _, _, _, _, _ => none
  | n + 1, x1, x2, x3, x5, σ =>
    chk x1 16 (if (lg_cmp ((rd σ 7 x1).toInt64) x3) ≤ 0 then
    some (x5, σ)
    else bnd (m_X3_dropPage x1 σ) (fun _ σ_68 => f_X3_grow_54 n x1 x2 x3 x5 σ_68))
def m_X3_grow (x1 x2 : Int32) (σ : KS) : KR :=
    bnd (m_X3_isLive x1 σ) (fun r_2 σ_2 => if r_2 = 0 then
    if (lg_cmp (-1) 0) < 0 then
    some ((-2), σ_2)
    else if (lg_cmp (-1) 256) ≤ 0 then
    chk x1 16 (if 0 < x2 then
    bnd (m_X3_layAside σ_2) (fun _ σ_78 => f_X3_grow_85 FU x1 x2 (-1) (rd σ_2 7 x1) (rd σ_2 7 x1) σ_78)
    else f_X3_grow_54 FU x1 x2 (-1) (rd σ_2 7 x1) σ_2)
    else some ((-2), σ_2)
    else chk x1 16 (if (lg_cmp (((rd σ_2 7 x1).toInt64) + x2.toInt64) 0) < 0 then
    some ((-2), σ_2)
    else if (lg_cmp (((rd σ_2 7 x1).toInt64) + x2.toInt64) 256) ≤ 0 then
    chk x1 16 (if 0 < x2 then
    bnd (m_X3_layAside σ_2) (fun _ σ_78 => f_X3_grow_85 FU x1 x2 (((rd σ_2 7 x1).toInt64) + x2.toInt64) (rd σ_2 7 x1) (rd σ_2 7 x1) σ_78)
    else f_X3_grow_54 FU x1 x2 (((rd σ_2 7 x1).toInt64) + x2.toInt64) (rd σ_2 7 x1) σ_2)
    else some ((-2), σ_2)))
def f_X3_reap_15 : Nat → Int32 → Int32 → Int32 → KS → KR
  | 0, _, _, _, _ => none
  | n + 1, x1, x2, x3, σ =>
    if 16 ≤ x3 then
    if x2 = 0 then
    some ((-6), σ)
    else some ((-7), σ)
    else chk x3 16 (if (rd σ 6 x3) = 0 then
    f_X3_reap_15 n x1 (x2 + 0) (x3 + 1) σ
    else chk x3 16 (if (rd σ 8 x3) = x1 then
    chk x3 16 (if (rd σ 6 x3) = 2 then
    bnd (m_X3_vanish x3 σ) (fun _ σ_64 => chk x3 16 (some (((256 * x3) + ((rd σ_64 9 x3) &&& 255)), σ_64)))
    else f_X3_reap_15 n x1 (x2 + 1) (x3 + 1) σ)
    else f_X3_reap_15 n x1 (x2 + 0) (x3 + 1) σ))
def m_X3_reap (x1 : Int32) (σ : KS) : KR :=
    bnd (m_X3_isLive x1 σ) (fun r_2 σ_2 => if r_2 = 0 then
    some ((-2), σ_2)
    else f_X3_reap_15 FU x1 0 0 σ_2)
def m_X3_spawn (σ : KS) : KR :=
    bnd (m_X3_unusedNumber σ) (fun r_1 σ_1 => if 0 ≤ r_1 then
    bnd (m_X3_layAside σ_1) (fun _ σ_13 => bnd (m_X3_takeSmall 1 σ_13) (fun r_18 σ_18 => if 0 ≤ r_18 then
    bnd (m_X3_begin r_1 r_18 (-1) σ_18) (fun _ σ_35 => some (r_1, σ_35))
    else bnd (m_X3_fail σ_18) (fun r_27 σ_27 => some (r_27, σ_27))))
    else some ((-4), σ_1))
end
section
set_option maxRecDepth 100000 in
set_option maxHeartbeats 4000000 in
theorem c_J6_bitCount_0f7a4 (l : Launch) (D : va_G) (cI cZ : ClassId) (α : Nat → Nat) (A : Nat → Prop) (hJ : ∀ σ, va_D A ((kwX cI α) σ)) (x0 : Int32) (σ : KS) : Ct l D (tyA cI cZ) (kwX cI α) A yJ6_bitCount_0f7a4 cJ6_bitCount_0f7a4 1 (some .int) 0 vI [.int x0] σ (m_J6_bitCount_0f7a4 x0 σ) := by
  refine Ct.of (own := RJ6) hJ (by decide) rfl (Nat.le_of_ble_eq_true rfl) ?_
  intro p e s m args below meth c X
  refine r_sub (lv' := [(0, .int x0)]) [0] rfl ?_
  unfold m_J6_bitCount_0f7a4
  refine r_iload_n X (j := 0) dJ6_bitCount_0f7a4_0 rfl rfl ?_
  refine r_iload_n X (j := 0) dJ6_bitCount_0f7a4_1 rfl rfl ?_
  refine r_iconst X (v := 1) dJ6_bitCount_0f7a4_2 (by decide) ?_
  refine r_iushr X dJ6_bitCount_0f7a4_3 ?_
  refine r_ldcw X kc_265 dJ6_bitCount_0f7a4_4 ?_
  refine r_iand X dJ6_bitCount_0f7a4_7 ?_
  refine r_isub X dJ6_bitCount_0f7a4_8 ?_
  refine r_istore_n X (lv' := [(0, .int (x0 - (((x0.toUInt32 >>> ((1 : Int32).toUInt32 &&& Int32.toUInt32 31)).toInt32) &&& 1431655765)))]) dJ6_bitCount_0f7a4_9 rfl (by decide) rfl ?_
  refine r_iload_n X (j := 0) dJ6_bitCount_0f7a4_10 rfl rfl ?_
  refine r_ldcw X kc_266 dJ6_bitCount_0f7a4_11 ?_
  refine r_iand X dJ6_bitCount_0f7a4_14 ?_
  refine r_iload_n X (j := 0) dJ6_bitCount_0f7a4_15 rfl rfl ?_
  refine r_iconst X (v := 2) dJ6_bitCount_0f7a4_16 (by decide) ?_
  refine r_iushr X dJ6_bitCount_0f7a4_17 ?_
  refine r_ldcw X kc_266 dJ6_bitCount_0f7a4_18 ?_
  refine r_iand X dJ6_bitCount_0f7a4_21 ?_
  refine r_iadd X dJ6_bitCount_0f7a4_22 ?_
  refine r_istore_n X (lv' := [(0, .int (((x0 - (((x0.toUInt32 >>> ((1 : Int32).toUInt32 &&& Int32.toUInt32 31)).toInt32) &&& 1431655765)) &&& 858993459) + ((((x0 - (((x0.toUInt32 >>> ((1 : Int32).toUInt32 &&& Int32.toUInt32 31)).toInt32) &&& 1431655765)).toUInt32 >>> ((2 : Int32).toUInt32 &&& Int32.toUInt32 31)).toInt32) &&& 858993459)))]) dJ6_bitCount_0f7a4_23 rfl (by decide) rfl ?_
  refine r_iload_n X (j := 0) dJ6_bitCount_0f7a4_24 rfl rfl ?_
  refine r_iload_n X (j := 0) dJ6_bitCount_0f7a4_25 rfl rfl ?_
  refine r_iconst X (v := 4) dJ6_bitCount_0f7a4_26 (by decide) ?_
  refine r_iushr X dJ6_bitCount_0f7a4_27 ?_
  refine r_iadd X dJ6_bitCount_0f7a4_28 ?_
  refine r_ldcw X kc_267 dJ6_bitCount_0f7a4_29 ?_
  refine r_iand X dJ6_bitCount_0f7a4_32 ?_
  refine r_istore_n X (lv' := [(0, .int (((((x0 - (((x0.toUInt32 >>> ((1 : Int32).toUInt32 &&& Int32.toUInt32 31)).toInt32) &&& 1431655765)) &&& 858993459) + ((((x0 - (((x0.toUInt32 >>> ((1 : Int32).toUInt32 &&& Int32.toUInt32 31)).toInt32) &&& 1431655765)).toUInt32 >>> ((2 : Int32).toUInt32 &&& Int32.toUInt32 31)).toInt32) &&& 858993459)) + (((((x0 - (((x0.toUInt32 >>> ((1 : Int32).toUInt32 &&& Int32.toUInt32 31)).toInt32) &&& 1431655765)) &&& 858993459) + ((((x0 - (((x0.toUInt32 >>> ((1 : Int32).toUInt32 &&& Int32.toUInt32 31)).toInt32) &&& 1431655765)).toUInt32 >>> ((2 : Int32).toUInt32 &&& Int32.toUInt32 31)).toInt32) &&& 858993459)).toUInt32 >>> ((4 : Int32).toUInt32 &&& Int32.toUInt32 31)).toInt32)) &&& 252645135))]) dJ6_bitCount_0f7a4_33 rfl (by decide) rfl ?_
  refine r_iload_n X (j := 0) dJ6_bitCount_0f7a4_34 rfl rfl ?_
  refine r_iload_n X (j := 0) dJ6_bitCount_0f7a4_35 rfl rfl ?_
  refine r_bipush X (v := 8) dJ6_bitCount_0f7a4_36 (by decide) ?_
  refine r_iushr X dJ6_bitCount_0f7a4_38 ?_
  refine r_iadd X dJ6_bitCount_0f7a4_39 ?_
  refine r_istore_n X (lv' := [(0, .int ((((((x0 - (((x0.toUInt32 >>> ((1 : Int32).toUInt32 &&& Int32.toUInt32 31)).toInt32) &&& 1431655765)) &&& 858993459) + ((((x0 - (((x0.toUInt32 >>> ((1 : Int32).toUInt32 &&& Int32.toUInt32 31)).toInt32) &&& 1431655765)).toUInt32 >>> ((2 : Int32).toUInt32 &&& Int32.toUInt32 31)).toInt32) &&& 858993459)) + (((((x0 - (((x0.toUInt32 >>> ((1 : Int32).toUInt32 &&& Int32.toUInt32 31)).toInt32) &&& 1431655765)) &&& 858993459) + ((((x0 - (((x0.toUInt32 >>> ((1 : Int32).toUInt32 &&& Int32.toUInt32 31)).toInt32) &&& 1431655765)).toUInt32 >>> ((2 : Int32).toUInt32 &&& Int32.toUInt32 31)).toInt32) &&& 858993459)).toUInt32 >>> ((4 : Int32).toUInt32 &&& Int32.toUInt32 31)).toInt32)) &&& 252645135) + (((((((x0 - (((x0.toUInt32 >>> ((1 : Int32).toUInt32 &&& Int32.toUInt32 31)).toInt32) &&& 1431655765)) &&& 858993459) + ((((x0 - (((x0.toUInt32 >>> ((1 : Int32).toUInt32 &&& Int32.toUInt32 31)).toInt32) &&& 1431655765)).toUInt32 >>> ((2 : Int32).toUInt32 &&& Int32.toUInt32 31)).toInt32) &&& 858993459)) + (((((x0 - (((x0.toUInt32 >>> ((1 : Int32).toUInt32 &&& Int32.toUInt32 31)).toInt32) &&& 1431655765)) &&& 858993459) + ((((x0 - (((x0.toUInt32 >>> ((1 : Int32).toUInt32 &&& Int32.toUInt32 31)).toInt32) &&& 1431655765)).toUInt32 >>> ((2 : Int32).toUInt32 &&& Int32.toUInt32 31)).toInt32) &&& 858993459)).toUInt32 >>> ((4 : Int32).toUInt32 &&& Int32.toUInt32 31)).toInt32)) &&& 252645135).toUInt32 >>> ((8 : Int32).toUInt32 &&& Int32.toUInt32 31)).toInt32)))]) dJ6_bitCount_0f7a4_40 rfl (by decide) rfl ?_
  refine r_iload_n X (j := 0) dJ6_bitCount_0f7a4_41 rfl rfl ?_
  refine r_iload_n X (j := 0) dJ6_bitCount_0f7a4_42 rfl rfl ?_
  refine r_bipush X (v := 16) dJ6_bitCount_0f7a4_43 (by decide) ?_
  refine r_iushr X dJ6_bitCount_0f7a4_45 ?_
  refine r_iadd X dJ6_bitCount_0f7a4_46 ?_
  refine r_istore_n X (lv' := [(0, .int (((((((x0 - (((x0.toUInt32 >>> ((1 : Int32).toUInt32 &&& Int32.toUInt32 31)).toInt32) &&& 1431655765)) &&& 858993459) + ((((x0 - (((x0.toUInt32 >>> ((1 : Int32).toUInt32 &&& Int32.toUInt32 31)).toInt32) &&& 1431655765)).toUInt32 >>> ((2 : Int32).toUInt32 &&& Int32.toUInt32 31)).toInt32) &&& 858993459)) + (((((x0 - (((x0.toUInt32 >>> ((1 : Int32).toUInt32 &&& Int32.toUInt32 31)).toInt32) &&& 1431655765)) &&& 858993459) + ((((x0 - (((x0.toUInt32 >>> ((1 : Int32).toUInt32 &&& Int32.toUInt32 31)).toInt32) &&& 1431655765)).toUInt32 >>> ((2 : Int32).toUInt32 &&& Int32.toUInt32 31)).toInt32) &&& 858993459)).toUInt32 >>> ((4 : Int32).toUInt32 &&& Int32.toUInt32 31)).toInt32)) &&& 252645135) + (((((((x0 - (((x0.toUInt32 >>> ((1 : Int32).toUInt32 &&& Int32.toUInt32 31)).toInt32) &&& 1431655765)) &&& 858993459) + ((((x0 - (((x0.toUInt32 >>> ((1 : Int32).toUInt32 &&& Int32.toUInt32 31)).toInt32) &&& 1431655765)).toUInt32 >>> ((2 : Int32).toUInt32 &&& Int32.toUInt32 31)).toInt32) &&& 858993459)) + (((((x0 - (((x0.toUInt32 >>> ((1 : Int32).toUInt32 &&& Int32.toUInt32 31)).toInt32) &&& 1431655765)) &&& 858993459) + ((((x0 - (((x0.toUInt32 >>> ((1 : Int32).toUInt32 &&& Int32.toUInt32 31)).toInt32) &&& 1431655765)).toUInt32 >>> ((2 : Int32).toUInt32 &&& Int32.toUInt32 31)).toInt32) &&& 858993459)).toUInt32 >>> ((4 : Int32).toUInt32 &&& Int32.toUInt32 31)).toInt32)) &&& 252645135).toUInt32 >>> ((8 : Int32).toUInt32 &&& Int32.toUInt32 31)).toInt32)) + ((((((((x0 - (((x0.toUInt32 >>> ((1 : Int32).toUInt32 &&& Int32.toUInt32 31)).toInt32) &&& 1431655765)) &&& 858993459) + ((((x0 - (((x0.toUInt32 >>> ((1 : Int32).toUInt32 &&& Int32.toUInt32 31)).toInt32) &&& 1431655765)).toUInt32 >>> ((2 : Int32).toUInt32 &&& Int32.toUInt32 31)).toInt32) &&& 858993459)) + (((((x0 - (((x0.toUInt32 >>> ((1 : Int32).toUInt32 &&& Int32.toUInt32 31)).toInt32) &&& 1431655765)) &&& 858993459) + ((((x0 - (((x0.toUInt32 >>> ((1 : Int32).toUInt32 &&& Int32.toUInt32 31)).toInt32) &&& 1431655765)).toUInt32 >>> ((2 : Int32).toUInt32 &&& Int32.toUInt32 31)).toInt32) &&& 858993459)).toUInt32 >>> ((4 : Int32).toUInt32 &&& Int32.toUInt32 31)).toInt32)) &&& 252645135) + (((((((x0 - (((x0.toUInt32 >>> ((1 : Int32).toUInt32 &&& Int32.toUInt32 31)).toInt32) &&& 1431655765)) &&& 858993459) + ((((x0 - (((x0.toUInt32 >>> ((1 : Int32).toUInt32 &&& Int32.toUInt32 31)).toInt32) &&& 1431655765)).toUInt32 >>> ((2 : Int32).toUInt32 &&& Int32.toUInt32 31)).toInt32) &&& 858993459)) + (((((x0 - (((x0.toUInt32 >>> ((1 : Int32).toUInt32 &&& Int32.toUInt32 31)).toInt32) &&& 1431655765)) &&& 858993459) + ((((x0 - (((x0.toUInt32 >>> ((1 : Int32).toUInt32 &&& Int32.toUInt32 31)).toInt32) &&& 1431655765)).toUInt32 >>> ((2 : Int32).toUInt32 &&& Int32.toUInt32 31)).toInt32) &&& 858993459)).toUInt32 >>> ((4 : Int32).toUInt32 &&& Int32.toUInt32 31)).toInt32)) &&& 252645135).toUInt32 >>> ((8 : Int32).toUInt32 &&& Int32.toUInt32 31)).toInt32)).toUInt32 >>> ((16 : Int32).toUInt32 &&& Int32.toUInt32 31)).toInt32)))]) dJ6_bitCount_0f7a4_47 rfl (by decide) rfl ?_
  refine r_iload_n X (j := 0) dJ6_bitCount_0f7a4_48 rfl rfl ?_
  refine r_bipush X (v := 63) dJ6_bitCount_0f7a4_49 (by decide) ?_
  refine r_iand X dJ6_bitCount_0f7a4_51 ?_
  exact r_ireturn X dJ6_bitCount_0f7a4_52
set_option maxRecDepth 100000 in
set_option maxHeartbeats 4000000 in
theorem cl_X1r_leastWithRoom_2 (l : Launch) (D : va_G) (cI cZ : ClassId) (α : Nat → Nat) (A : Nat → Prop) (hJ : ∀ σ, va_D A ((kwX cI α) σ)) {p : Program} {e : Env} {s : State} {m : MethodId} {args : Array Value} {below : List Frame} {meth : Method} {c : Code} (X : CX p s m args meth c cX1_leastWithRoom 2 RX1 D (tyA cI cZ) (kwX cI α) A (some .int)) : ∀ (n : Nat) (x1 : Int32) (σ : KS), Cr p l e (rmd 0) s m args below meth c 2 D (kwX cI α) A vI 2 [(0, .ref (α 2)), (1, .int x1)] [] σ (f_X1r_leastWithRoom_2 n x1 σ) := by
  intro n
  induction n with
  | zero => intros; exact r_none
  | succ n ih =>
    intro x1 σ
    rw [f_X1r_leastWithRoom_2]
    refine r_iload_n X (j := 1) dX1_leastWithRoom_2 rfl rfl ?_
    refine r_sipush X (v := 128) dX1_leastWithRoom_3 (by decide) ?_
    refine r_icmp_ge X (tgt := 37) dX1_leastWithRoom_6 (by decide) (fun _ => ?_) (fun _ => ?_)
    · refine r_iconst X (v := (-1)) dX1_leastWithRoom_37 (by decide) ?_
      exact r_ireturn X dX1_leastWithRoom_38
    · refine r_aload_n X (j := 0) dX1_leastWithRoom_9 rfl rfl ?_
      refine r_get X (ci := 1) (q0 := 2) (v := .ref (α 6)) inX1 rfl rfl 1 (by decide) rfl fl_X1_15 dX1_leastWithRoom_10 ?_
      refine r_iload_n X (j := 1) dX1_leastWithRoom_13 rfl rfl ?_
      refine r_iald X (q0 := 6) (t0 := 0) (kk := 6) rfl rfl dX1_leastWithRoom_14 ?_
      refine r_if_eq X (tgt := 31) dX1_leastWithRoom_15 (by decide) (fun _ => ?_) (fun _ => ?_)
      · refine r_iinc X (j := 1) (v := (x1 + 1)) (lv' := [(1, .int (x1 + 1)), (0, .ref (α 2))]) dX1_leastWithRoom_31 rfl rfl (by decide) rfl ?_
        refine r_goto X (tgt := 2) dX1_leastWithRoom_34 (by decide) ?_
        refine r_sub (lv' := [(0, .ref (α 2)), (1, .int (x1 + 1))]) [1, 0] rfl ?_
        exact ih (x1 + 1) σ
      · refine r_aload_n X (j := 0) dX1_leastWithRoom_18 rfl rfl ?_
        refine r_get X (ci := 1) (q0 := 2) (v := .ref (α 6)) inX1 rfl rfl 1 (by decide) rfl fl_X1_15 dX1_leastWithRoom_19 ?_
        refine r_iload_n X (j := 1) dX1_leastWithRoom_22 rfl rfl ?_
        refine r_iald X (q0 := 6) (t0 := 0) (kk := 6) rfl rfl dX1_leastWithRoom_23 ?_
        refine r_bipush X (v := 15) dX1_leastWithRoom_24 (by decide) ?_
        refine r_icmp_eq X (tgt := 31) dX1_leastWithRoom_26 (by decide) (fun _ => ?_) (fun _ => ?_)
        · refine r_iinc X (j := 1) (v := (x1 + 1)) (lv' := [(1, .int (x1 + 1)), (0, .ref (α 2))]) dX1_leastWithRoom_31 rfl rfl (by decide) rfl ?_
          refine r_goto X (tgt := 2) dX1_leastWithRoom_34 (by decide) ?_
          refine r_sub (lv' := [(0, .ref (α 2)), (1, .int (x1 + 1))]) [1, 0] rfl ?_
          exact ih (x1 + 1) σ
        · refine r_iload_n X (j := 1) dX1_leastWithRoom_29 rfl rfl ?_
          exact r_ireturn X dX1_leastWithRoom_30
set_option maxRecDepth 100000 in
set_option maxHeartbeats 4000000 in
theorem c_X1r_leastWithRoom (l : Launch) (D : va_G) (cI cZ : ClassId) (α : Nat → Nat) (A : Nat → Prop) (hJ : ∀ σ, va_D A ((kwX cI α) σ)) (σ : KS) : Ct l D (tyA cI cZ) (kwX cI α) A yX1_leastWithRoom cX1_leastWithRoom 2 (some .int) 0 vI [.ref (α 2)] σ (m_X1r_leastWithRoom σ) := by
  refine Ct.of (own := RX1) hJ (by decide) rfl (Nat.le_of_ble_eq_true rfl) ?_
  intro p e s m args below meth c X
  refine r_sub (lv' := [(0, .ref (α 2))]) [0] rfl ?_
  unfold m_X1r_leastWithRoom
  refine r_iconst X (v := 0) dX1_leastWithRoom_0 (by decide) ?_
  refine r_istore_n X (lv' := [(1, .int 0), (0, .ref (α 2))]) dX1_leastWithRoom_1 rfl (by decide) rfl ?_
  refine r_sub (lv' := [(0, .ref (α 2)), (1, .int 0)]) [1, 0] rfl ?_
  exact cl_X1r_leastWithRoom_2 l D cI cZ α A hJ X FU 0 σ
set_option maxRecDepth 100000 in
set_option maxHeartbeats 4000000 in
theorem cl_X1t_leastWithRoom_2 (l : Launch) (D : va_G) (cI cZ : ClassId) (α : Nat → Nat) (A : Nat → Prop) (hJ : ∀ σ, va_D A ((kwX cI α) σ)) {p : Program} {e : Env} {s : State} {m : MethodId} {args : Array Value} {below : List Frame} {meth : Method} {c : Code} (X : CX p s m args meth c cX1_leastWithRoom 2 RX1 D (tyA cI cZ) (kwX cI α) A (some .int)) : ∀ (n : Nat) (x1 : Int32) (σ : KS), Cr p l e (rmd 0) s m args below meth c 2 D (kwX cI α) A vI 2 [(0, .ref (α 3)), (1, .int x1)] [] σ (f_X1t_leastWithRoom_2 n x1 σ) := by
  intro n
  induction n with
  | zero => intros; exact r_none
  | succ n ih =>
    intro x1 σ
    rw [f_X1t_leastWithRoom_2]
    refine r_iload_n X (j := 1) dX1_leastWithRoom_2 rfl rfl ?_
    refine r_sipush X (v := 128) dX1_leastWithRoom_3 (by decide) ?_
    refine r_icmp_ge X (tgt := 37) dX1_leastWithRoom_6 (by decide) (fun _ => ?_) (fun _ => ?_)
    · refine r_iconst X (v := (-1)) dX1_leastWithRoom_37 (by decide) ?_
      exact r_ireturn X dX1_leastWithRoom_38
    · refine r_aload_n X (j := 0) dX1_leastWithRoom_9 rfl rfl ?_
      refine r_get X (ci := 1) (q0 := 3) (v := .ref (α 7)) inX1 rfl rfl 1 (by decide) rfl fl_X1_15 dX1_leastWithRoom_10 ?_
      refine r_iload_n X (j := 1) dX1_leastWithRoom_13 rfl rfl ?_
      refine r_iald X (q0 := 7) (t0 := 0) (kk := 7) rfl rfl dX1_leastWithRoom_14 ?_
      refine r_if_eq X (tgt := 31) dX1_leastWithRoom_15 (by decide) (fun _ => ?_) (fun _ => ?_)
      · refine r_iinc X (j := 1) (v := (x1 + 1)) (lv' := [(1, .int (x1 + 1)), (0, .ref (α 3))]) dX1_leastWithRoom_31 rfl rfl (by decide) rfl ?_
        refine r_goto X (tgt := 2) dX1_leastWithRoom_34 (by decide) ?_
        refine r_sub (lv' := [(0, .ref (α 3)), (1, .int (x1 + 1))]) [1, 0] rfl ?_
        exact ih (x1 + 1) σ
      · refine r_aload_n X (j := 0) dX1_leastWithRoom_18 rfl rfl ?_
        refine r_get X (ci := 1) (q0 := 3) (v := .ref (α 7)) inX1 rfl rfl 1 (by decide) rfl fl_X1_15 dX1_leastWithRoom_19 ?_
        refine r_iload_n X (j := 1) dX1_leastWithRoom_22 rfl rfl ?_
        refine r_iald X (q0 := 7) (t0 := 0) (kk := 7) rfl rfl dX1_leastWithRoom_23 ?_
        refine r_bipush X (v := 15) dX1_leastWithRoom_24 (by decide) ?_
        refine r_icmp_eq X (tgt := 31) dX1_leastWithRoom_26 (by decide) (fun _ => ?_) (fun _ => ?_)
        · refine r_iinc X (j := 1) (v := (x1 + 1)) (lv' := [(1, .int (x1 + 1)), (0, .ref (α 3))]) dX1_leastWithRoom_31 rfl rfl (by decide) rfl ?_
          refine r_goto X (tgt := 2) dX1_leastWithRoom_34 (by decide) ?_
          refine r_sub (lv' := [(0, .ref (α 3)), (1, .int (x1 + 1))]) [1, 0] rfl ?_
          exact ih (x1 + 1) σ
        · refine r_iload_n X (j := 1) dX1_leastWithRoom_29 rfl rfl ?_
          exact r_ireturn X dX1_leastWithRoom_30
set_option maxRecDepth 100000 in
set_option maxHeartbeats 4000000 in
theorem c_X1t_leastWithRoom (l : Launch) (D : va_G) (cI cZ : ClassId) (α : Nat → Nat) (A : Nat → Prop) (hJ : ∀ σ, va_D A ((kwX cI α) σ)) (σ : KS) : Ct l D (tyA cI cZ) (kwX cI α) A yX1_leastWithRoom cX1_leastWithRoom 2 (some .int) 0 vI [.ref (α 3)] σ (m_X1t_leastWithRoom σ) := by
  refine Ct.of (own := RX1) hJ (by decide) rfl (Nat.le_of_ble_eq_true rfl) ?_
  intro p e s m args below meth c X
  refine r_sub (lv' := [(0, .ref (α 3))]) [0] rfl ?_
  unfold m_X1t_leastWithRoom
  refine r_iconst X (v := 0) dX1_leastWithRoom_0 (by decide) ?_
  refine r_istore_n X (lv' := [(1, .int 0), (0, .ref (α 3))]) dX1_leastWithRoom_1 rfl (by decide) rfl ?_
  refine r_sub (lv' := [(0, .ref (α 3)), (1, .int 0)]) [1, 0] rfl ?_
  exact cl_X1t_leastWithRoom_2 l D cI cZ α A hJ X FU 0 σ
set_option maxRecDepth 100000 in
set_option maxHeartbeats 4000000 in
theorem cl_X2_childrenOf_4 (l : Launch) (D : va_G) (cI cZ : ClassId) (α : Nat → Nat) (A : Nat → Prop) (hJ : ∀ σ, va_D A ((kwX cI α) σ)) {p : Program} {e : Env} {s : State} {m : MethodId} {args : Array Value} {below : List Frame} {meth : Method} {c : Code} (X : CX p s m args meth c cX2_childrenOf 4 RX2 D (tyA cI cZ) (kwX cI α) A (some .int)) : ∀ (n : Nat) (x1 : Int32) (x2 : Int32) (x3 : Int32) (σ : KS), Cr p l e (rmd 0) s m args below meth c 4 D (kwX cI α) A vI 4 [(0, .ref (α 0)), (1, .int x1), (2, .int x2), (3, .int x3)] [] σ (f_X2_childrenOf_4 n x1 x2 x3 σ) := by
  intro n
  induction n with
  | zero => intros; exact r_none
  | succ n ih =>
    intro x1 x2 x3 σ
    rw [f_X2_childrenOf_4]
    refine r_iload_n X (j := 3) dX2_childrenOf_4 rfl rfl ?_
    refine r_bipush X (v := 16) dX2_childrenOf_5 (by decide) ?_
    refine r_icmp_ge X (tgt := 29) dX2_childrenOf_7 (by decide) (fun _ => ?_) (fun _ => ?_)
    · refine r_iload_n X (j := 2) dX2_childrenOf_29 rfl rfl ?_
      exact r_ireturn X dX2_childrenOf_30
    · refine r_aload_n X (j := 0) dX2_childrenOf_10 rfl rfl ?_
      refine r_get X (ci := 2) (q0 := 0) (v := .ref (α 12)) inX2 rfl rfl 7 (by decide) rfl fl_X2_41 dX2_childrenOf_11 ?_
      refine r_iload_n X (j := 3) dX2_childrenOf_14 rfl rfl ?_
      refine r_iald X (q0 := 12) (t0 := 0) (kk := 12) rfl rfl dX2_childrenOf_15 ?_
      refine r_iload_n X (j := 1) dX2_childrenOf_16 rfl rfl ?_
      refine r_icmp_ne X (tgt := 23) dX2_childrenOf_17 (by decide) (fun _ => ?_) (fun _ => ?_)
      · refine r_iinc X (j := 2) (v := (x2 + 1)) (lv' := [(2, .int (x2 + 1)), (0, .ref (α 0)), (1, .int x1), (3, .int x3)]) dX2_childrenOf_20 rfl rfl (by decide) rfl ?_
        refine r_iinc X (j := 3) (v := (x3 + 1)) (lv' := [(3, .int (x3 + 1)), (2, .int (x2 + 1)), (0, .ref (α 0)), (1, .int x1)]) dX2_childrenOf_23 rfl rfl (by decide) rfl ?_
        refine r_goto X (tgt := 4) dX2_childrenOf_26 (by decide) ?_
        refine r_sub (lv' := [(0, .ref (α 0)), (1, .int x1), (2, .int (x2 + 1)), (3, .int (x3 + 1))]) [2, 3, 1, 0] rfl ?_
        exact ih x1 (x2 + 1) (x3 + 1) σ
      · refine r_iinc X (j := 3) (v := (x3 + 1)) (lv' := [(3, .int (x3 + 1)), (0, .ref (α 0)), (1, .int x1), (2, .int x2)]) dX2_childrenOf_23 rfl rfl (by decide) rfl ?_
        refine r_goto X (tgt := 4) dX2_childrenOf_26 (by decide) ?_
        refine r_sub (lv' := [(0, .ref (α 0)), (1, .int x1), (2, .int x2), (3, .int (x3 + 1))]) [1, 2, 3, 0] rfl ?_
        exact ih x1 x2 (x3 + 1) σ
set_option maxRecDepth 100000 in
set_option maxHeartbeats 4000000 in
theorem c_X2_childrenOf (l : Launch) (D : va_G) (cI cZ : ClassId) (α : Nat → Nat) (A : Nat → Prop) (hJ : ∀ σ, va_D A ((kwX cI α) σ)) (x1 : Int32) (σ : KS) : Ct l D (tyA cI cZ) (kwX cI α) A yX2_childrenOf cX2_childrenOf 4 (some .int) 0 vI [.ref (α 0), .int x1] σ (m_X2_childrenOf x1 σ) := by
  refine Ct.of (own := RX2) hJ (by decide) rfl (Nat.le_of_ble_eq_true rfl) ?_
  intro p e s m args below meth c X
  refine r_sub (lv' := [(0, .ref (α 0)), (1, .int x1)]) [0, 1] rfl ?_
  unfold m_X2_childrenOf
  refine r_iconst X (v := 0) dX2_childrenOf_0 (by decide) ?_
  refine r_istore_n X (lv' := [(2, .int 0), (0, .ref (α 0)), (1, .int x1)]) dX2_childrenOf_1 rfl (by decide) rfl ?_
  refine r_iconst X (v := 0) dX2_childrenOf_2 (by decide) ?_
  refine r_istore_n X (lv' := [(3, .int 0), (2, .int 0), (0, .ref (α 0)), (1, .int x1)]) dX2_childrenOf_3 rfl (by decide) rfl ?_
  refine r_sub (lv' := [(0, .ref (α 0)), (1, .int x1), (2, .int 0), (3, .int 0)]) [2, 3, 1, 0] rfl ?_
  exact cl_X2_childrenOf_4 l D cI cZ α A hJ X FU x1 0 0 σ
set_option maxRecDepth 100000 in
set_option maxHeartbeats 4000000 in
theorem cl_X2_countInState_4 (l : Launch) (D : va_G) (cI cZ : ClassId) (α : Nat → Nat) (A : Nat → Prop) (hJ : ∀ σ, va_D A ((kwX cI α) σ)) {p : Program} {e : Env} {s : State} {m : MethodId} {args : Array Value} {below : List Frame} {meth : Method} {c : Code} (X : CX p s m args meth c cX2_countInState 4 RX2 D (tyA cI cZ) (kwX cI α) A (some .int)) : ∀ (n : Nat) (x1 : Int32) (x2 : Int32) (x3 : Int32) (σ : KS), Cr p l e (rmd 0) s m args below meth c 4 D (kwX cI α) A vI 4 [(0, .ref (α 0)), (1, .int x1), (2, .int x2), (3, .int x3)] [] σ (f_X2_countInState_4 n x1 x2 x3 σ) := by
  intro n
  induction n with
  | zero => intros; exact r_none
  | succ n ih =>
    intro x1 x2 x3 σ
    rw [f_X2_countInState_4]
    refine r_iload_n X (j := 3) dX2_countInState_4 rfl rfl ?_
    refine r_bipush X (v := 16) dX2_countInState_5 (by decide) ?_
    refine r_icmp_ge X (tgt := 29) dX2_countInState_7 (by decide) (fun _ => ?_) (fun _ => ?_)
    · refine r_iload_n X (j := 2) dX2_countInState_29 rfl rfl ?_
      exact r_ireturn X dX2_countInState_30
    · refine r_aload_n X (j := 0) dX2_countInState_10 rfl rfl ?_
      refine r_get X (ci := 2) (q0 := 0) (v := .ref (α 11)) inX2 rfl rfl 6 (by decide) rfl fl_X2_38 dX2_countInState_11 ?_
      refine r_iload_n X (j := 3) dX2_countInState_14 rfl rfl ?_
      refine r_iald X (q0 := 11) (t0 := 0) (kk := 11) rfl rfl dX2_countInState_15 ?_
      refine r_iload_n X (j := 1) dX2_countInState_16 rfl rfl ?_
      refine r_icmp_ne X (tgt := 23) dX2_countInState_17 (by decide) (fun _ => ?_) (fun _ => ?_)
      · refine r_iinc X (j := 2) (v := (x2 + 1)) (lv' := [(2, .int (x2 + 1)), (0, .ref (α 0)), (1, .int x1), (3, .int x3)]) dX2_countInState_20 rfl rfl (by decide) rfl ?_
        refine r_iinc X (j := 3) (v := (x3 + 1)) (lv' := [(3, .int (x3 + 1)), (2, .int (x2 + 1)), (0, .ref (α 0)), (1, .int x1)]) dX2_countInState_23 rfl rfl (by decide) rfl ?_
        refine r_goto X (tgt := 4) dX2_countInState_26 (by decide) ?_
        refine r_sub (lv' := [(0, .ref (α 0)), (1, .int x1), (2, .int (x2 + 1)), (3, .int (x3 + 1))]) [2, 3, 1, 0] rfl ?_
        exact ih x1 (x2 + 1) (x3 + 1) σ
      · refine r_iinc X (j := 3) (v := (x3 + 1)) (lv' := [(3, .int (x3 + 1)), (0, .ref (α 0)), (1, .int x1), (2, .int x2)]) dX2_countInState_23 rfl rfl (by decide) rfl ?_
        refine r_goto X (tgt := 4) dX2_countInState_26 (by decide) ?_
        refine r_sub (lv' := [(0, .ref (α 0)), (1, .int x1), (2, .int x2), (3, .int (x3 + 1))]) [1, 2, 3, 0] rfl ?_
        exact ih x1 x2 (x3 + 1) σ
set_option maxRecDepth 100000 in
set_option maxHeartbeats 4000000 in
theorem c_X2_countInState (l : Launch) (D : va_G) (cI cZ : ClassId) (α : Nat → Nat) (A : Nat → Prop) (hJ : ∀ σ, va_D A ((kwX cI α) σ)) (x1 : Int32) (σ : KS) : Ct l D (tyA cI cZ) (kwX cI α) A yX2_countInState cX2_countInState 4 (some .int) 0 vI [.ref (α 0), .int x1] σ (m_X2_countInState x1 σ) := by
  refine Ct.of (own := RX2) hJ (by decide) rfl (Nat.le_of_ble_eq_true rfl) ?_
  intro p e s m args below meth c X
  refine r_sub (lv' := [(0, .ref (α 0)), (1, .int x1)]) [0, 1] rfl ?_
  unfold m_X2_countInState
  refine r_iconst X (v := 0) dX2_countInState_0 (by decide) ?_
  refine r_istore_n X (lv' := [(2, .int 0), (0, .ref (α 0)), (1, .int x1)]) dX2_countInState_1 rfl (by decide) rfl ?_
  refine r_iconst X (v := 0) dX2_countInState_2 (by decide) ?_
  refine r_istore_n X (lv' := [(3, .int 0), (2, .int 0), (0, .ref (α 0)), (1, .int x1)]) dX2_countInState_3 rfl (by decide) rfl ?_
  refine r_sub (lv' := [(0, .ref (α 0)), (1, .int x1), (2, .int 0), (3, .int 0)]) [2, 3, 1, 0] rfl ?_
  exact cl_X2_countInState_4 l D cI cZ α A hJ X FU x1 0 0 σ
set_option maxRecDepth 100000 in
set_option maxHeartbeats 4000000 in
theorem c_X2_current (l : Launch) (D : va_G) (cI cZ : ClassId) (α : Nat → Nat) (A : Nat → Prop) (hJ : ∀ σ, va_D A ((kwX cI α) σ)) (σ : KS) : Ct l D (tyA cI cZ) (kwX cI α) A yX2_current cX2_current 1 (some .int) 0 vI [.ref (α 0)] σ (m_X2_current σ) := by
  refine Ct.of (own := RX2) hJ (by decide) rfl (Nat.le_of_ble_eq_true rfl) ?_
  intro p e s m args below meth c X
  refine r_sub (lv' := [(0, .ref (α 0))]) [0] rfl ?_
  unfold m_X2_current
  refine r_aload_n X (j := 0) dX2_current_0 rfl rfl ?_
  refine r_get X (ci := 2) (q0 := 0) (v := .int (gv σ 0)) inX2 rfl rfl 12 (by decide) rfl fl_X2_108 dX2_current_1 ?_
  refine r_if_ne X (tgt := 11) dX2_current_4 (by decide) (fun _ => ?_) (fun _ => ?_)
  · refine r_iconst X (v := (-1)) dX2_current_7 (by decide) ?_
    refine r_goto X (tgt := 17) dX2_current_8 (by decide) ?_
    exact r_ireturn X dX2_current_17
  · refine r_aload_n X (j := 0) dX2_current_11 rfl rfl ?_
    refine r_get X (ci := 2) (q0 := 0) (v := .ref (α 16)) inX2 rfl rfl 11 (by decide) rfl fl_X2_53 dX2_current_12 ?_
    refine r_iconst X (v := 0) dX2_current_15 (by decide) ?_
    refine r_iald X (q0 := 16) (t0 := 0) (kk := 16) rfl rfl dX2_current_16 ?_
    exact r_ireturn X dX2_current_17
set_option maxRecDepth 100000 in
set_option maxHeartbeats 4000000 in
theorem c_X2_isFrame (l : Launch) (D : va_G) (cI cZ : ClassId) (α : Nat → Nat) (A : Nat → Prop) (hJ : ∀ σ, va_D A ((kwX cI α) σ)) (x0 : Int32) (σ : KS) : Ct l D (tyA cI cZ) (kwX cI α) A yX2_isFrame cX2_isFrame 1 (some .boolean) 0 vI [.int x0] σ (m_X2_isFrame x0 σ) := by
  refine Ct.of (own := RX2) hJ (by decide) rfl (Nat.le_of_ble_eq_true rfl) ?_
  intro p e s m args below meth c X
  refine r_sub (lv' := [(0, .int x0)]) [0] rfl ?_
  unfold m_X2_isFrame
  refine r_iload_n X (j := 0) dX2_isFrame_0 rfl rfl ?_
  refine r_if_lt X (tgt := 15) dX2_isFrame_1 (by decide) (fun _ => ?_) (fun _ => ?_)
  · refine r_iconst X (v := 0) dX2_isFrame_15 (by decide) ?_
    exact r_zreturn X (by decide) dX2_isFrame_16
  · refine r_iload_n X (j := 0) dX2_isFrame_4 rfl rfl ?_
    refine r_sipush X (v := 128) dX2_isFrame_5 (by decide) ?_
    refine r_icmp_ge X (tgt := 15) dX2_isFrame_8 (by decide) (fun _ => ?_) (fun _ => ?_)
    · refine r_iconst X (v := 0) dX2_isFrame_15 (by decide) ?_
      exact r_zreturn X (by decide) dX2_isFrame_16
    · refine r_iconst X (v := 1) dX2_isFrame_11 (by decide) ?_
      refine r_goto X (tgt := 16) dX2_isFrame_12 (by decide) ?_
      exact r_zreturn X (by decide) dX2_isFrame_16
set_option maxRecDepth 100000 in
set_option maxHeartbeats 4000000 in
theorem c_X2_isNumber (l : Launch) (D : va_G) (cI cZ : ClassId) (α : Nat → Nat) (A : Nat → Prop) (hJ : ∀ σ, va_D A ((kwX cI α) σ)) (x0 : Int32) (σ : KS) : Ct l D (tyA cI cZ) (kwX cI α) A yX2_isNumber cX2_isNumber 1 (some .boolean) 0 vI [.int x0] σ (m_X2_isNumber x0 σ) := by
  refine Ct.of (own := RX2) hJ (by decide) rfl (Nat.le_of_ble_eq_true rfl) ?_
  intro p e s m args below meth c X
  refine r_sub (lv' := [(0, .int x0)]) [0] rfl ?_
  unfold m_X2_isNumber
  refine r_iload_n X (j := 0) dX2_isNumber_0 rfl rfl ?_
  refine r_if_lt X (tgt := 14) dX2_isNumber_1 (by decide) (fun _ => ?_) (fun _ => ?_)
  · refine r_iconst X (v := 0) dX2_isNumber_14 (by decide) ?_
    exact r_zreturn X (by decide) dX2_isNumber_15
  · refine r_iload_n X (j := 0) dX2_isNumber_4 rfl rfl ?_
    refine r_bipush X (v := 16) dX2_isNumber_5 (by decide) ?_
    refine r_icmp_ge X (tgt := 14) dX2_isNumber_7 (by decide) (fun _ => ?_) (fun _ => ?_)
    · refine r_iconst X (v := 0) dX2_isNumber_14 (by decide) ?_
      exact r_zreturn X (by decide) dX2_isNumber_15
    · refine r_iconst X (v := 1) dX2_isNumber_10 (by decide) ?_
      refine r_goto X (tgt := 15) dX2_isNumber_11 (by decide) ?_
      exact r_zreturn X (by decide) dX2_isNumber_15
set_option maxRecDepth 100000 in
set_option maxHeartbeats 4000000 in
theorem c_X2_isOrder (l : Launch) (D : va_G) (cI cZ : ClassId) (α : Nat → Nat) (A : Nat → Prop) (hJ : ∀ σ, va_D A ((kwX cI α) σ)) (x0 : Int32) (σ : KS) : Ct l D (tyA cI cZ) (kwX cI α) A yX2_isOrder cX2_isOrder 1 (some .boolean) 0 vI [.int x0] σ (m_X2_isOrder x0 σ) := by
  refine Ct.of (own := RX2) hJ (by decide) rfl (Nat.le_of_ble_eq_true rfl) ?_
  intro p e s m args below meth c X
  refine r_sub (lv' := [(0, .int x0)]) [0] rfl ?_
  unfold m_X2_isOrder
  refine r_iload_n X (j := 0) dX2_isOrder_0 rfl rfl ?_
  refine r_if_lt X (tgt := 14) dX2_isOrder_1 (by decide) (fun _ => ?_) (fun _ => ?_)
  · refine r_iconst X (v := 0) dX2_isOrder_14 (by decide) ?_
    exact r_zreturn X (by decide) dX2_isOrder_15
  · refine r_iload_n X (j := 0) dX2_isOrder_4 rfl rfl ?_
    refine r_bipush X (v := 7) dX2_isOrder_5 (by decide) ?_
    refine r_icmp_gt X (tgt := 14) dX2_isOrder_7 (by decide) (fun _ => ?_) (fun _ => ?_)
    · refine r_iconst X (v := 0) dX2_isOrder_14 (by decide) ?_
      exact r_zreturn X (by decide) dX2_isOrder_15
    · refine r_iconst X (v := 1) dX2_isOrder_10 (by decide) ?_
      refine r_goto X (tgt := 15) dX2_isOrder_11 (by decide) ?_
      exact r_zreturn X (by decide) dX2_isOrder_15
set_option maxRecDepth 100000 in
set_option maxHeartbeats 4000000 in
theorem c_X2_joinRow (l : Launch) (D : va_G) (cI cZ : ClassId) (α : Nat → Nat) (A : Nat → Prop) (hJ : ∀ σ, va_D A ((kwX cI α) σ)) (x1 : Int32) (σ : KS) : Ct l D (tyA cI cZ) (kwX cI α) A yX2_joinRow cX2_joinRow 2 none 0 vV [.ref (α 0), .int x1] σ (m_X2_joinRow x1 σ) := by
  refine Ct.of (own := RX2) hJ (by decide) rfl (Nat.le_of_ble_eq_true rfl) ?_
  intro p e s m args below meth c X
  refine r_sub (lv' := [(0, .ref (α 0)), (1, .int x1)]) [0, 1] rfl ?_
  unfold m_X2_joinRow
  refine r_aload_n X (j := 0) dX2_joinRow_0 rfl rfl ?_
  refine r_get X (ci := 2) (q0 := 0) (v := .int (gv σ 0)) inX2 rfl rfl 12 (by decide) rfl fl_X2_108 dX2_joinRow_1 ?_
  refine r_bipush X (v := 16) dX2_joinRow_4 (by decide) ?_
  refine r_icmp_ge X (tgt := 29) dX2_joinRow_6 (by decide) (fun _ => ?_) (fun _ => ?_)
  · exact r_return X dX2_joinRow_29
  · refine r_aload_n X (j := 0) dX2_joinRow_9 rfl rfl ?_
    refine r_get X (ci := 2) (q0 := 0) (v := .ref (α 16)) inX2 rfl rfl 11 (by decide) rfl fl_X2_53 dX2_joinRow_10 ?_
    refine r_aload_n X (j := 0) dX2_joinRow_13 rfl rfl ?_
    refine r_get X (ci := 2) (q0 := 0) (v := .int (gv σ 0)) inX2 rfl rfl 12 (by decide) rfl fl_X2_108 dX2_joinRow_14 ?_
    refine r_iload_n X (j := 1) dX2_joinRow_17 rfl rfl ?_
    refine r_iast X (q0 := 16) (t0 := 0) (kk := 16) rfl (fun _ => rfl) rfl dX2_joinRow_18 ?_
    refine r_aload_n X (j := 0) dX2_joinRow_19 rfl rfl ?_
    refine r_dup X dX2_joinRow_20 rfl ?_
    refine r_get X (ci := 2) (q0 := 0) (v := .int (gv (wr σ 16 (gv σ 0) x1) 0)) inX2 rfl rfl 12 (by decide) rfl fl_X2_108 dX2_joinRow_21 ?_
    refine r_iconst X (v := 1) dX2_joinRow_24 (by decide) ?_
    refine r_iadd X dX2_joinRow_25 ?_
    refine r_put X (ci := 2) (q0 := 0) (j := 0) inX2 rfl tyX2_ok nmX2 rfl 12 (by decide) rfl fl_X2_108 rfl (by decide +kernel) (Nat.le_of_ble_eq_true rfl) dX2_joinRow_26 ?_
    exact r_return X dX2_joinRow_29
set_option maxRecDepth 100000 in
set_option maxHeartbeats 4000000 in
theorem cl_X2_leastUnused_2 (l : Launch) (D : va_G) (cI cZ : ClassId) (α : Nat → Nat) (A : Nat → Prop) (hJ : ∀ σ, va_D A ((kwX cI α) σ)) {p : Program} {e : Env} {s : State} {m : MethodId} {args : Array Value} {below : List Frame} {meth : Method} {c : Code} (X : CX p s m args meth c cX2_leastUnused 2 RX2 D (tyA cI cZ) (kwX cI α) A (some .int)) : ∀ (n : Nat) (x1 : Int32) (σ : KS), Cr p l e (rmd 0) s m args below meth c 2 D (kwX cI α) A vI 2 [(0, .ref (α 0)), (1, .int x1)] [] σ (f_X2_leastUnused_2 n x1 σ) := by
  intro n
  induction n with
  | zero => intros; exact r_none
  | succ n ih =>
    intro x1 σ
    rw [f_X2_leastUnused_2]
    refine r_iload_n X (j := 1) dX2_leastUnused_2 rfl rfl ?_
    refine r_bipush X (v := 16) dX2_leastUnused_3 (by decide) ?_
    refine r_icmp_ge X (tgt := 25) dX2_leastUnused_5 (by decide) (fun _ => ?_) (fun _ => ?_)
    · refine r_iconst X (v := (-1)) dX2_leastUnused_25 (by decide) ?_
      exact r_ireturn X dX2_leastUnused_26
    · refine r_aload_n X (j := 0) dX2_leastUnused_8 rfl rfl ?_
      refine r_get X (ci := 2) (q0 := 0) (v := .ref (α 11)) inX2 rfl rfl 6 (by decide) rfl fl_X2_38 dX2_leastUnused_9 ?_
      refine r_iload_n X (j := 1) dX2_leastUnused_12 rfl rfl ?_
      refine r_iald X (q0 := 11) (t0 := 0) (kk := 11) rfl rfl dX2_leastUnused_13 ?_
      refine r_if_ne X (tgt := 19) dX2_leastUnused_14 (by decide) (fun _ => ?_) (fun _ => ?_)
      · refine r_iload_n X (j := 1) dX2_leastUnused_17 rfl rfl ?_
        exact r_ireturn X dX2_leastUnused_18
      · refine r_iinc X (j := 1) (v := (x1 + 1)) (lv' := [(1, .int (x1 + 1)), (0, .ref (α 0))]) dX2_leastUnused_19 rfl rfl (by decide) rfl ?_
        refine r_goto X (tgt := 2) dX2_leastUnused_22 (by decide) ?_
        refine r_sub (lv' := [(0, .ref (α 0)), (1, .int (x1 + 1))]) [1, 0] rfl ?_
        exact ih (x1 + 1) σ
set_option maxRecDepth 100000 in
set_option maxHeartbeats 4000000 in
theorem c_X2_leastUnused (l : Launch) (D : va_G) (cI cZ : ClassId) (α : Nat → Nat) (A : Nat → Prop) (hJ : ∀ σ, va_D A ((kwX cI α) σ)) (σ : KS) : Ct l D (tyA cI cZ) (kwX cI α) A yX2_leastUnused cX2_leastUnused 2 (some .int) 0 vI [.ref (α 0)] σ (m_X2_leastUnused σ) := by
  refine Ct.of (own := RX2) hJ (by decide) rfl (Nat.le_of_ble_eq_true rfl) ?_
  intro p e s m args below meth c X
  refine r_sub (lv' := [(0, .ref (α 0))]) [0] rfl ?_
  unfold m_X2_leastUnused
  refine r_iconst X (v := 0) dX2_leastUnused_0 (by decide) ?_
  refine r_istore_n X (lv' := [(1, .int 0), (0, .ref (α 0))]) dX2_leastUnused_1 rfl (by decide) rfl ?_
  refine r_sub (lv' := [(0, .ref (α 0)), (1, .int 0)]) [1, 0] rfl ?_
  exact cl_X2_leastUnused_2 l D cI cZ α A hJ X FU 0 σ
set_option maxRecDepth 100000 in
set_option maxHeartbeats 4000000 in
theorem cl_X2_leaveRow_4 (l : Launch) (D : va_G) (cI cZ : ClassId) (α : Nat → Nat) (A : Nat → Prop) (hJ : ∀ σ, va_D A ((kwX cI α) σ)) {p : Program} {e : Env} {s : State} {m : MethodId} {args : Array Value} {below : List Frame} {meth : Method} {c : Code} (X : CX p s m args meth c cX2_leaveRow 4 RX2 D (tyA cI cZ) (kwX cI α) A none) : ∀ (n : Nat) (x1 : Int32) (x2 : Int32) (x3 : Int32) (σ : KS), Cr p l e (rmd 0) s m args below meth c 4 D (kwX cI α) A vV 4 [(0, .ref (α 0)), (1, .int x1), (2, .int x2), (3, .int x3)] [] σ (f_X2_leaveRow_4 n x1 x2 x3 σ) := by
  intro n
  induction n with
  | zero => intros; exact r_none
  | succ n ih =>
    intro x1 x2 x3 σ
    rw [f_X2_leaveRow_4]
    refine r_iload_n X (j := 3) dX2_leaveRow_4 rfl rfl ?_
    refine r_aload_n X (j := 0) dX2_leaveRow_5 rfl rfl ?_
    refine r_get X (ci := 2) (q0 := 0) (v := .int (gv σ 0)) inX2 rfl rfl 12 (by decide) rfl fl_X2_108 dX2_leaveRow_6 ?_
    refine r_icmp_ge X (tgt := 43) dX2_leaveRow_9 (by decide) (fun _ => ?_) (fun _ => ?_)
    · refine r_aload_n X (j := 0) dX2_leaveRow_43 rfl rfl ?_
      refine r_iload_n X (j := 2) dX2_leaveRow_44 rfl rfl ?_
      refine r_put X (ci := 2) (q0 := 0) (j := 0) inX2 rfl tyX2_ok nmX2 rfl 12 (by decide) rfl fl_X2_108 rfl (by decide +kernel) (Nat.le_of_ble_eq_true rfl) dX2_leaveRow_45 ?_
      exact r_return X dX2_leaveRow_48
    · refine r_aload_n X (j := 0) dX2_leaveRow_12 rfl rfl ?_
      refine r_get X (ci := 2) (q0 := 0) (v := .ref (α 16)) inX2 rfl rfl 11 (by decide) rfl fl_X2_53 dX2_leaveRow_13 ?_
      refine r_iload_n X (j := 3) dX2_leaveRow_16 rfl rfl ?_
      refine r_iald X (q0 := 16) (t0 := 0) (kk := 16) rfl rfl dX2_leaveRow_17 ?_
      refine r_iload_n X (j := 1) dX2_leaveRow_18 rfl rfl ?_
      refine r_icmp_eq X (tgt := 37) dX2_leaveRow_19 (by decide) (fun _ => ?_) (fun _ => ?_)
      · refine r_iinc X (j := 3) (v := (x3 + 1)) (lv' := [(3, .int (x3 + 1)), (0, .ref (α 0)), (1, .int x1), (2, .int x2)]) dX2_leaveRow_37 rfl rfl (by decide) rfl ?_
        refine r_goto X (tgt := 4) dX2_leaveRow_40 (by decide) ?_
        refine r_sub (lv' := [(0, .ref (α 0)), (1, .int x1), (2, .int x2), (3, .int (x3 + 1))]) [1, 2, 3, 0] rfl ?_
        exact ih x1 x2 (x3 + 1) σ
      · refine r_aload_n X (j := 0) dX2_leaveRow_22 rfl rfl ?_
        refine r_get X (ci := 2) (q0 := 0) (v := .ref (α 16)) inX2 rfl rfl 11 (by decide) rfl fl_X2_53 dX2_leaveRow_23 ?_
        refine r_iload_n X (j := 2) dX2_leaveRow_26 rfl rfl ?_
        refine r_aload_n X (j := 0) dX2_leaveRow_27 rfl rfl ?_
        refine r_get X (ci := 2) (q0 := 0) (v := .ref (α 16)) inX2 rfl rfl 11 (by decide) rfl fl_X2_53 dX2_leaveRow_28 ?_
        refine r_iload_n X (j := 3) dX2_leaveRow_31 rfl rfl ?_
        refine r_iald X (q0 := 16) (t0 := 0) (kk := 16) rfl rfl dX2_leaveRow_32 ?_
        refine r_iast X (q0 := 16) (t0 := 0) (kk := 16) rfl (fun _ => rfl) rfl dX2_leaveRow_33 ?_
        refine r_iinc X (j := 2) (v := (x2 + 1)) (lv' := [(2, .int (x2 + 1)), (0, .ref (α 0)), (1, .int x1), (3, .int x3)]) dX2_leaveRow_34 rfl rfl (by decide) rfl ?_
        refine r_iinc X (j := 3) (v := (x3 + 1)) (lv' := [(3, .int (x3 + 1)), (2, .int (x2 + 1)), (0, .ref (α 0)), (1, .int x1)]) dX2_leaveRow_37 rfl rfl (by decide) rfl ?_
        refine r_goto X (tgt := 4) dX2_leaveRow_40 (by decide) ?_
        refine r_sub (lv' := [(0, .ref (α 0)), (1, .int x1), (2, .int (x2 + 1)), (3, .int (x3 + 1))]) [2, 3, 1, 0] rfl ?_
        exact ih x1 (x2 + 1) (x3 + 1) (wr σ 16 x2 (rd σ 16 x3))
set_option maxRecDepth 100000 in
set_option maxHeartbeats 4000000 in
theorem c_X2_leaveRow (l : Launch) (D : va_G) (cI cZ : ClassId) (α : Nat → Nat) (A : Nat → Prop) (hJ : ∀ σ, va_D A ((kwX cI α) σ)) (x1 : Int32) (σ : KS) : Ct l D (tyA cI cZ) (kwX cI α) A yX2_leaveRow cX2_leaveRow 4 none 0 vV [.ref (α 0), .int x1] σ (m_X2_leaveRow x1 σ) := by
  refine Ct.of (own := RX2) hJ (by decide) rfl (Nat.le_of_ble_eq_true rfl) ?_
  intro p e s m args below meth c X
  refine r_sub (lv' := [(0, .ref (α 0)), (1, .int x1)]) [0, 1] rfl ?_
  unfold m_X2_leaveRow
  refine r_iconst X (v := 0) dX2_leaveRow_0 (by decide) ?_
  refine r_istore_n X (lv' := [(2, .int 0), (0, .ref (α 0)), (1, .int x1)]) dX2_leaveRow_1 rfl (by decide) rfl ?_
  refine r_iconst X (v := 0) dX2_leaveRow_2 (by decide) ?_
  refine r_istore_n X (lv' := [(3, .int 0), (2, .int 0), (0, .ref (α 0)), (1, .int x1)]) dX2_leaveRow_3 rfl (by decide) rfl ?_
  refine r_sub (lv' := [(0, .ref (α 0)), (1, .int x1), (2, .int 0), (3, .int 0)]) [2, 3, 1, 0] rfl ?_
  exact cl_X2_leaveRow_4 l D cI cZ α A hJ X FU x1 0 0 σ
set_option maxRecDepth 100000 in
set_option maxHeartbeats 4000000 in
theorem c_X2_pageOf (l : Launch) (D : va_G) (cI cZ : ClassId) (α : Nat → Nat) (A : Nat → Prop) (hJ : ∀ σ, va_D A ((kwX cI α) σ)) (x0 : Int32) (σ : KS) : Ct l D (tyA cI cZ) (kwX cI α) A yX2_pageOf cX2_pageOf 1 (some .int) 0 vI [.int x0] σ (m_X2_pageOf x0 σ) := by
  refine Ct.of (own := RX2) hJ (by decide) rfl (Nat.le_of_ble_eq_true rfl) ?_
  intro p e s m args below meth c X
  refine r_sub (lv' := [(0, .int x0)]) [0] rfl ?_
  unfold m_X2_pageOf
  refine r_iload_n X (j := 0) dX2_pageOf_0 rfl rfl ?_
  refine r_bipush X (v := 6) dX2_pageOf_1 (by decide) ?_
  refine r_ishr X dX2_pageOf_3 ?_
  exact r_ireturn X dX2_pageOf_4
set_option maxRecDepth 100000 in
set_option maxHeartbeats 4000000 in
theorem cl_X2_placeInRow_2 (l : Launch) (D : va_G) (cI cZ : ClassId) (α : Nat → Nat) (A : Nat → Prop) (hJ : ∀ σ, va_D A ((kwX cI α) σ)) {p : Program} {e : Env} {s : State} {m : MethodId} {args : Array Value} {below : List Frame} {meth : Method} {c : Code} (X : CX p s m args meth c cX2_placeInRow 3 RX2 D (tyA cI cZ) (kwX cI α) A (some .int)) : ∀ (n : Nat) (x1 : Int32) (x2 : Int32) (σ : KS), Cr p l e (rmd 0) s m args below meth c 3 D (kwX cI α) A vI 2 [(0, .ref (α 0)), (1, .int x1), (2, .int x2)] [] σ (f_X2_placeInRow_2 n x1 x2 σ) := by
  intro n
  induction n with
  | zero => intros; exact r_none
  | succ n ih =>
    intro x1 x2 σ
    rw [f_X2_placeInRow_2]
    refine r_iload_n X (j := 2) dX2_placeInRow_2 rfl rfl ?_
    refine r_aload_n X (j := 0) dX2_placeInRow_3 rfl rfl ?_
    refine r_get X (ci := 2) (q0 := 0) (v := .int (gv σ 0)) inX2 rfl rfl 12 (by decide) rfl fl_X2_108 dX2_placeInRow_4 ?_
    refine r_icmp_ge X (tgt := 28) dX2_placeInRow_7 (by decide) (fun _ => ?_) (fun _ => ?_)
    · refine r_iconst X (v := (-1)) dX2_placeInRow_28 (by decide) ?_
      exact r_ireturn X dX2_placeInRow_29
    · refine r_aload_n X (j := 0) dX2_placeInRow_10 rfl rfl ?_
      refine r_get X (ci := 2) (q0 := 0) (v := .ref (α 16)) inX2 rfl rfl 11 (by decide) rfl fl_X2_53 dX2_placeInRow_11 ?_
      refine r_iload_n X (j := 2) dX2_placeInRow_14 rfl rfl ?_
      refine r_iald X (q0 := 16) (t0 := 0) (kk := 16) rfl rfl dX2_placeInRow_15 ?_
      refine r_iload_n X (j := 1) dX2_placeInRow_16 rfl rfl ?_
      refine r_icmp_ne X (tgt := 22) dX2_placeInRow_17 (by decide) (fun _ => ?_) (fun _ => ?_)
      · refine r_iload_n X (j := 2) dX2_placeInRow_20 rfl rfl ?_
        exact r_ireturn X dX2_placeInRow_21
      · refine r_iinc X (j := 2) (v := (x2 + 1)) (lv' := [(2, .int (x2 + 1)), (0, .ref (α 0)), (1, .int x1)]) dX2_placeInRow_22 rfl rfl (by decide) rfl ?_
        refine r_goto X (tgt := 2) dX2_placeInRow_25 (by decide) ?_
        refine r_sub (lv' := [(0, .ref (α 0)), (1, .int x1), (2, .int (x2 + 1))]) [1, 2, 0] rfl ?_
        exact ih x1 (x2 + 1) σ
set_option maxRecDepth 100000 in
set_option maxHeartbeats 4000000 in
theorem c_X2_placeInRow (l : Launch) (D : va_G) (cI cZ : ClassId) (α : Nat → Nat) (A : Nat → Prop) (hJ : ∀ σ, va_D A ((kwX cI α) σ)) (x1 : Int32) (σ : KS) : Ct l D (tyA cI cZ) (kwX cI α) A yX2_placeInRow cX2_placeInRow 3 (some .int) 0 vI [.ref (α 0), .int x1] σ (m_X2_placeInRow x1 σ) := by
  refine Ct.of (own := RX2) hJ (by decide) rfl (Nat.le_of_ble_eq_true rfl) ?_
  intro p e s m args below meth c X
  refine r_sub (lv' := [(0, .ref (α 0)), (1, .int x1)]) [0, 1] rfl ?_
  unfold m_X2_placeInRow
  refine r_iconst X (v := 0) dX2_placeInRow_0 (by decide) ?_
  refine r_istore_n X (lv' := [(2, .int 0), (0, .ref (α 0)), (1, .int x1)]) dX2_placeInRow_1 rfl (by decide) rfl ?_
  refine r_sub (lv' := [(0, .ref (α 0)), (1, .int x1), (2, .int 0)]) [1, 2, 0] rfl ?_
  exact cl_X2_placeInRow_2 l D cI cZ α A hJ X FU x1 0 σ
set_option maxRecDepth 100000 in
set_option maxHeartbeats 4000000 in
theorem c_X2_refuse (l : Launch) (D : va_G) (cI cZ : ClassId) (α : Nat → Nat) (A : Nat → Prop) (hJ : ∀ σ, va_D A ((kwX cI α) σ)) (σ : KS) : Ct l D (tyA cI cZ) (kwX cI α) A yX2_refuse cX2_refuse 1 (some .int) 0 vI [.ref (α 0)] σ (m_X2_refuse σ) := by
  refine Ct.of (own := RX2) hJ (by decide) rfl (Nat.le_of_ble_eq_true rfl) ?_
  intro p e s m args below meth c X
  refine r_sub (lv' := [(0, .ref (α 0))]) [0] rfl ?_
  unfold m_X2_refuse
  refine r_aload_n X (j := 0) dX2_refuse_0 rfl rfl ?_
  refine r_dup X dX2_refuse_1 rfl ?_
  refine r_get X (ci := 2) (q0 := 0) (v := .int (gv σ 2)) inX2 rfl rfl 14 (by decide) rfl fl_X2_157 dX2_refuse_2 ?_
  refine r_iconst X (v := 1) dX2_refuse_5 (by decide) ?_
  refine r_iadd X dX2_refuse_6 ?_
  refine r_put X (ci := 2) (q0 := 0) (j := 2) inX2 rfl tyX2_ok nmX2 rfl 14 (by decide) rfl fl_X2_157 rfl (by decide +kernel) (Nat.le_of_ble_eq_true rfl) dX2_refuse_7 ?_
  refine r_bipush X (v := (-3)) dX2_refuse_10 (by decide) ?_
  exact r_ireturn X dX2_refuse_12
set_option maxRecDepth 100000 in
set_option maxHeartbeats 4000000 in
theorem c_X2_setWord (l : Launch) (D : va_G) (cI cZ : ClassId) (α : Nat → Nat) (A : Nat → Prop) (hJ : ∀ σ, va_D A ((kwX cI α) σ)) (x1 x2 : Int32) (σ : KS) : Ct l D (tyA cI cZ) (kwX cI α) A yX2_setWord cX2_setWord 3 none 0 vV [.ref (α 0), .int x1, .int x2] σ (m_X2_setWord x1 x2 σ) := by
  refine Ct.of (own := RX2) hJ (by decide) rfl (Nat.le_of_ble_eq_true rfl) ?_
  intro p e s m args below meth c X
  refine r_sub (lv' := [(0, .ref (α 0)), (1, .int x1), (2, .int x2)]) [0, 1, 2] rfl ?_
  unfold m_X2_setWord
  refine r_iload_n X (j := 1) dX2_setWord_0 rfl rfl ?_
  refine r_if_lt X (tgt := 20) dX2_setWord_1 (by decide) (fun _ => ?_) (fun _ => ?_)
  · exact r_return X dX2_setWord_20
  · refine r_iload_n X (j := 1) dX2_setWord_4 rfl rfl ?_
    refine r_aload_n X (j := 0) dX2_setWord_5 rfl rfl ?_
    refine r_get X (ci := 2) (q0 := 0) (v := .ref (α 8)) inX2 rfl rfl 3 (by decide) rfl fl_X2_28 dX2_setWord_6 ?_
    refine r_alen X (q0 := 8) (t0 := 0) (kk := 8) (v := 8192) rfl rfl (by decide) dX2_setWord_9 ?_
    refine r_icmp_ge X (tgt := 20) dX2_setWord_10 (by decide) (fun _ => ?_) (fun _ => ?_)
    · exact r_return X dX2_setWord_20
    · refine r_aload_n X (j := 0) dX2_setWord_13 rfl rfl ?_
      refine r_get X (ci := 2) (q0 := 0) (v := .ref (α 8)) inX2 rfl rfl 3 (by decide) rfl fl_X2_28 dX2_setWord_14 ?_
      refine r_iload_n X (j := 1) dX2_setWord_17 rfl rfl ?_
      refine r_iload_n X (j := 2) dX2_setWord_18 rfl rfl ?_
      refine r_iast X (q0 := 8) (t0 := 0) (kk := 8) rfl (fun _ => rfl) rfl dX2_setWord_19 ?_
      exact r_return X dX2_setWord_20
set_option maxRecDepth 100000 in
set_option maxHeartbeats 4000000 in
theorem c_X2_tableIndex (l : Launch) (D : va_G) (cI cZ : ClassId) (α : Nat → Nat) (A : Nat → Prop) (hJ : ∀ σ, va_D A ((kwX cI α) σ)) (x1 x2 : Int32) (σ : KS) : Ct l D (tyA cI cZ) (kwX cI α) A yX2_tableIndex cX2_tableIndex 3 (some .int) 0 vI [.ref (α 0), .int x1, .int x2] σ (m_X2_tableIndex x1 x2 σ) := by
  refine Ct.of (own := RX2) hJ (by decide) rfl (Nat.le_of_ble_eq_true rfl) ?_
  intro p e s m args below meth c X
  refine r_sub (lv' := [(0, .ref (α 0)), (1, .int x1), (2, .int x2)]) [0, 1, 2] rfl ?_
  unfold m_X2_tableIndex
  refine r_aload_n X (j := 0) dX2_tableIndex_0 rfl rfl ?_
  refine r_get X (ci := 2) (q0 := 0) (v := .ref (α 15)) inX2 rfl rfl 10 (by decide) rfl fl_X2_50 dX2_tableIndex_1 ?_
  refine r_iload_n X (j := 1) dX2_tableIndex_4 rfl rfl ?_
  refine r_iald X (q0 := 15) (t0 := 0) (kk := 15) rfl rfl dX2_tableIndex_5 ?_
  refine r_bipush X (v := 16) dX2_tableIndex_6 (by decide) ?_
  refine r_imul X dX2_tableIndex_8 ?_
  refine r_iload_n X (j := 2) dX2_tableIndex_9 rfl rfl ?_
  refine r_bipush X (v := 16) dX2_tableIndex_10 (by decide) ?_
  refine r_idiv X dX2_tableIndex_12 (by decide) ?_
  refine r_iadd X dX2_tableIndex_13 ?_
  exact r_ireturn X dX2_tableIndex_14
set_option maxRecDepth 100000 in
set_option maxHeartbeats 4000000 in
theorem c_X2_wordAt (l : Launch) (D : va_G) (cI cZ : ClassId) (α : Nat → Nat) (A : Nat → Prop) (hJ : ∀ σ, va_D A ((kwX cI α) σ)) (x1 : Int32) (σ : KS) : Ct l D (tyA cI cZ) (kwX cI α) A yX2_wordAt cX2_wordAt 2 (some .int) 0 vI [.ref (α 0), .int x1] σ (m_X2_wordAt x1 σ) := by
  refine Ct.of (own := RX2) hJ (by decide) rfl (Nat.le_of_ble_eq_true rfl) ?_
  intro p e s m args below meth c X
  refine r_sub (lv' := [(0, .ref (α 0)), (1, .int x1)]) [0, 1] rfl ?_
  unfold m_X2_wordAt
  refine r_iload_n X (j := 1) dX2_wordAt_0 rfl rfl ?_
  refine r_if_lt X (tgt := 22) dX2_wordAt_1 (by decide) (fun _ => ?_) (fun _ => ?_)
  · refine r_iconst X (v := 0) dX2_wordAt_22 (by decide) ?_
    exact r_ireturn X dX2_wordAt_23
  · refine r_iload_n X (j := 1) dX2_wordAt_4 rfl rfl ?_
    refine r_aload_n X (j := 0) dX2_wordAt_5 rfl rfl ?_
    refine r_get X (ci := 2) (q0 := 0) (v := .ref (α 8)) inX2 rfl rfl 3 (by decide) rfl fl_X2_28 dX2_wordAt_6 ?_
    refine r_alen X (q0 := 8) (t0 := 0) (kk := 8) (v := 8192) rfl rfl (by decide) dX2_wordAt_9 ?_
    refine r_icmp_ge X (tgt := 22) dX2_wordAt_10 (by decide) (fun _ => ?_) (fun _ => ?_)
    · refine r_iconst X (v := 0) dX2_wordAt_22 (by decide) ?_
      exact r_ireturn X dX2_wordAt_23
    · refine r_aload_n X (j := 0) dX2_wordAt_13 rfl rfl ?_
      refine r_get X (ci := 2) (q0 := 0) (v := .ref (α 8)) inX2 rfl rfl 3 (by decide) rfl fl_X2_28 dX2_wordAt_14 ?_
      refine r_iload_n X (j := 1) dX2_wordAt_17 rfl rfl ?_
      refine r_iald X (q0 := 8) (t0 := 0) (kk := 8) rfl rfl dX2_wordAt_18 ?_
      refine r_goto X (tgt := 23) dX2_wordAt_19 (by decide) ?_
      exact r_ireturn X dX2_wordAt_23
set_option maxRecDepth 100000 in
set_option maxHeartbeats 4000000 in
theorem c_X0_countOf (l : Launch) (D : va_G) (cI cZ : ClassId) (α : Nat → Nat) (A : Nat → Prop) (hJ : ∀ σ, va_D A ((kwX cI α) σ)) (x1 : Int32) (σ : KS) : Ct l D (tyA cI cZ) (kwX cI α) A yX0_countOf cX0_countOf 2 (some .int) 1 vI [.ref (α 1), .int x1] σ (m_X0_countOf x1 σ) := by
  refine Ct.of (own := RX0) hJ (by decide) rfl (Nat.le_of_ble_eq_true rfl) ?_
  intro p e s m args below meth c X
  refine r_sub (lv' := [(0, .ref (α 1)), (1, .int x1)]) [0, 1] rfl ?_
  unfold m_X0_countOf
  refine r_iload_n X (j := 1) dX0_countOf_0 rfl rfl ?_
  refine r_callNi X (n := 1) (As := [.int x1]) (st := []) (c_X2_isOrder l D cI cZ α A hJ x1 σ) X.2.2.1.1 sm_X2_isOrder ii_X2 co_X2_isOrder (by decide +kernel) ⟨Nat.le_of_ble_eq_true rfl, Nat.le_of_ble_eq_true rfl⟩ rfl rfl (Nat.le_of_ble_eq_true rfl) dX0_countOf_1 (fun r_1 σ_1 hc_1 => ?_)
  refine r_if_eq X (tgt := 16) dX0_countOf_4 (by decide) (fun _ => ?_) (fun _ => ?_)
  · refine r_iconst X (v := 0) dX0_countOf_16 (by decide) ?_
    exact r_ireturn X dX0_countOf_17
  · refine r_aload_n X (j := 0) dX0_countOf_7 rfl rfl ?_
    refine r_get X (ci := 0) (q0 := 1) (v := .ref (α 5)) inX0 rfl rfl 1 (by decide) rfl fl_X0_15 dX0_countOf_8 ?_
    refine r_iload_n X (j := 1) dX0_countOf_11 rfl rfl ?_
    refine r_iald X (q0 := 5) (t0 := 0) (kk := 5) rfl rfl dX0_countOf_12 ?_
    refine r_goto X (tgt := 17) dX0_countOf_13 (by decide) ?_
    exact r_ireturn X dX0_countOf_17
set_option maxRecDepth 100000 in
set_option maxHeartbeats 4000000 in
theorem c_X0_isFreeBlock (l : Launch) (D : va_G) (cI cZ : ClassId) (α : Nat → Nat) (A : Nat → Prop) (hJ : ∀ σ, va_D A ((kwX cI α) σ)) (x1 x2 : Int32) (σ : KS) : Ct l D (tyA cI cZ) (kwX cI α) A yX0_isFreeBlock cX0_isFreeBlock 3 (some .boolean) 1 vI [.ref (α 1), .int x1, .int x2] σ (m_X0_isFreeBlock x1 x2 σ) := by
  refine Ct.of (own := RX0) hJ (by decide) rfl (Nat.le_of_ble_eq_true rfl) ?_
  intro p e s m args below meth c X
  refine r_sub (lv' := [(0, .ref (α 1)), (1, .int x1), (2, .int x2)]) [0, 1, 2] rfl ?_
  unfold m_X0_isFreeBlock
  refine r_iload_n X (j := 1) dX0_isFreeBlock_0 rfl rfl ?_
  refine r_callNi X (n := 1) (As := [.int x1]) (st := []) (c_X2_isFrame l D cI cZ α A hJ x1 σ) X.2.2.1.2.1 sm_X2_isFrame ii_X2 co_X2_isFrame (by decide +kernel) ⟨Nat.le_of_ble_eq_true rfl, Nat.le_of_ble_eq_true rfl⟩ rfl rfl (Nat.le_of_ble_eq_true rfl) dX0_isFreeBlock_1 (fun r_1 σ_1 hc_1 => ?_)
  refine r_if_eq X (tgt := 21) dX0_isFreeBlock_4 (by decide) (fun _ => ?_) (fun _ => ?_)
  · refine r_iconst X (v := 0) dX0_isFreeBlock_21 (by decide) ?_
    exact r_zreturn X (by decide) dX0_isFreeBlock_22
  · refine r_aload_n X (j := 0) dX0_isFreeBlock_7 rfl rfl ?_
    refine r_get X (ci := 0) (q0 := 1) (v := .ref (α 4)) inX0 rfl rfl 0 (by decide) rfl fl_X0_9 dX0_isFreeBlock_8 ?_
    refine r_iload_n X (j := 1) dX0_isFreeBlock_11 rfl rfl ?_
    refine r_iald X (q0 := 4) (t0 := 0) (kk := 4) rfl rfl dX0_isFreeBlock_12 ?_
    refine r_iload_n X (j := 2) dX0_isFreeBlock_13 rfl rfl ?_
    refine r_icmp_ne X (tgt := 21) dX0_isFreeBlock_14 (by decide) (fun _ => ?_) (fun _ => ?_)
    · refine r_iconst X (v := 1) dX0_isFreeBlock_17 (by decide) ?_
      refine r_goto X (tgt := 22) dX0_isFreeBlock_18 (by decide) ?_
      exact r_zreturn X (by decide) dX0_isFreeBlock_22
    · refine r_iconst X (v := 0) dX0_isFreeBlock_21 (by decide) ?_
      exact r_zreturn X (by decide) dX0_isFreeBlock_22
set_option maxRecDepth 100000 in
set_option maxHeartbeats 4000000 in
theorem c_X0_leaveOut (l : Launch) (D : va_G) (cI cZ : ClassId) (α : Nat → Nat) (A : Nat → Prop) (hJ : ∀ σ, va_D A ((kwX cI α) σ)) (x1 x2 : Int32) (σ : KS) : Ct l D (tyA cI cZ) (kwX cI α) A yX0_leaveOut cX0_leaveOut 3 none 1 vV [.ref (α 1), .int x1, .int x2] σ (m_X0_leaveOut x1 x2 σ) := by
  refine Ct.of (own := RX0) hJ (by decide) rfl (Nat.le_of_ble_eq_true rfl) ?_
  intro p e s m args below meth c X
  refine r_sub (lv' := [(0, .ref (α 1)), (1, .int x1), (2, .int x2)]) [0, 1, 2] rfl ?_
  unfold m_X0_leaveOut
  refine r_iload_n X (j := 1) dX0_leaveOut_0 rfl rfl ?_
  refine r_callNi X (n := 1) (As := [.int x1]) (st := []) (c_X2_isFrame l D cI cZ α A hJ x1 σ) X.2.2.1.2.1 sm_X2_isFrame ii_X2 co_X2_isFrame (by decide +kernel) ⟨Nat.le_of_ble_eq_true rfl, Nat.le_of_ble_eq_true rfl⟩ rfl rfl (Nat.le_of_ble_eq_true rfl) dX0_leaveOut_1 (fun r_1 σ_1 hc_1 => ?_)
  refine r_if_eq X (tgt := 31) dX0_leaveOut_4 (by decide) (fun _ => ?_) (fun _ => ?_)
  · exact r_return X dX0_leaveOut_31
  · refine r_iload_n X (j := 2) dX0_leaveOut_7 rfl rfl ?_
    refine r_callNi X (n := 1) (As := [.int x2]) (st := []) (c_X2_isOrder l D cI cZ α A hJ x2 σ_1) X.2.2.1.1 sm_X2_isOrder ii_X2 co_X2_isOrder (by decide +kernel) ⟨Nat.le_of_ble_eq_true rfl, Nat.le_of_ble_eq_true rfl⟩ rfl rfl (Nat.le_of_ble_eq_true rfl) dX0_leaveOut_8 (fun r_8 σ_8 hc_8 => ?_)
    refine r_if_eq X (tgt := 31) dX0_leaveOut_11 (by decide) (fun _ => ?_) (fun _ => ?_)
    · exact r_return X dX0_leaveOut_31
    · refine r_aload_n X (j := 0) dX0_leaveOut_14 rfl rfl ?_
      refine r_get X (ci := 0) (q0 := 1) (v := .ref (α 4)) inX0 rfl rfl 0 (by decide) rfl fl_X0_9 dX0_leaveOut_15 ?_
      refine r_iload_n X (j := 1) dX0_leaveOut_18 rfl rfl ?_
      refine r_iconst X (v := (-1)) dX0_leaveOut_19 (by decide) ?_
      refine r_iast X (q0 := 4) (t0 := 0) (kk := 4) rfl (fun _ => rfl) rfl dX0_leaveOut_20 ?_
      refine r_aload_n X (j := 0) dX0_leaveOut_21 rfl rfl ?_
      refine r_get X (ci := 0) (q0 := 1) (v := .ref (α 5)) inX0 rfl rfl 1 (by decide) rfl fl_X0_15 dX0_leaveOut_22 ?_
      refine r_iload_n X (j := 2) dX0_leaveOut_25 rfl rfl ?_
      refine r_dup2 X dX0_leaveOut_26 rfl rfl ?_
      refine r_iald X (q0 := 5) (t0 := 0) (kk := 5) rfl rfl dX0_leaveOut_27 ?_
      refine r_iconst X (v := 1) dX0_leaveOut_28 (by decide) ?_
      refine r_isub X dX0_leaveOut_29 ?_
      refine r_iast X (q0 := 5) (t0 := 0) (kk := 5) rfl (fun _ => rfl) rfl dX0_leaveOut_30 ?_
      exact r_return X dX0_leaveOut_31
set_option maxRecDepth 100000 in
set_option maxHeartbeats 4000000 in
theorem c_X0_putIn (l : Launch) (D : va_G) (cI cZ : ClassId) (α : Nat → Nat) (A : Nat → Prop) (hJ : ∀ σ, va_D A ((kwX cI α) σ)) (x1 x2 : Int32) (σ : KS) : Ct l D (tyA cI cZ) (kwX cI α) A yX0_putIn cX0_putIn 3 none 1 vV [.ref (α 1), .int x1, .int x2] σ (m_X0_putIn x1 x2 σ) := by
  refine Ct.of (own := RX0) hJ (by decide) rfl (Nat.le_of_ble_eq_true rfl) ?_
  intro p e s m args below meth c X
  refine r_sub (lv' := [(0, .ref (α 1)), (1, .int x1), (2, .int x2)]) [0, 1, 2] rfl ?_
  unfold m_X0_putIn
  refine r_iload_n X (j := 1) dX0_putIn_0 rfl rfl ?_
  refine r_callNi X (n := 1) (As := [.int x1]) (st := []) (c_X2_isFrame l D cI cZ α A hJ x1 σ) X.2.2.1.2.1 sm_X2_isFrame ii_X2 co_X2_isFrame (by decide +kernel) ⟨Nat.le_of_ble_eq_true rfl, Nat.le_of_ble_eq_true rfl⟩ rfl rfl (Nat.le_of_ble_eq_true rfl) dX0_putIn_1 (fun r_1 σ_1 hc_1 => ?_)
  refine r_if_eq X (tgt := 31) dX0_putIn_4 (by decide) (fun _ => ?_) (fun _ => ?_)
  · exact r_return X dX0_putIn_31
  · refine r_iload_n X (j := 2) dX0_putIn_7 rfl rfl ?_
    refine r_callNi X (n := 1) (As := [.int x2]) (st := []) (c_X2_isOrder l D cI cZ α A hJ x2 σ_1) X.2.2.1.1 sm_X2_isOrder ii_X2 co_X2_isOrder (by decide +kernel) ⟨Nat.le_of_ble_eq_true rfl, Nat.le_of_ble_eq_true rfl⟩ rfl rfl (Nat.le_of_ble_eq_true rfl) dX0_putIn_8 (fun r_8 σ_8 hc_8 => ?_)
    refine r_if_eq X (tgt := 31) dX0_putIn_11 (by decide) (fun _ => ?_) (fun _ => ?_)
    · exact r_return X dX0_putIn_31
    · refine r_aload_n X (j := 0) dX0_putIn_14 rfl rfl ?_
      refine r_get X (ci := 0) (q0 := 1) (v := .ref (α 4)) inX0 rfl rfl 0 (by decide) rfl fl_X0_9 dX0_putIn_15 ?_
      refine r_iload_n X (j := 1) dX0_putIn_18 rfl rfl ?_
      refine r_iload_n X (j := 2) dX0_putIn_19 rfl rfl ?_
      refine r_iast X (q0 := 4) (t0 := 0) (kk := 4) rfl (fun _ => rfl) rfl dX0_putIn_20 ?_
      refine r_aload_n X (j := 0) dX0_putIn_21 rfl rfl ?_
      refine r_get X (ci := 0) (q0 := 1) (v := .ref (α 5)) inX0 rfl rfl 1 (by decide) rfl fl_X0_15 dX0_putIn_22 ?_
      refine r_iload_n X (j := 2) dX0_putIn_25 rfl rfl ?_
      refine r_dup2 X dX0_putIn_26 rfl rfl ?_
      refine r_iald X (q0 := 5) (t0 := 0) (kk := 5) rfl rfl dX0_putIn_27 ?_
      refine r_iconst X (v := 1) dX0_putIn_28 (by decide) ?_
      refine r_iadd X dX0_putIn_29 ?_
      refine r_iast X (q0 := 5) (t0 := 0) (kk := 5) rfl (fun _ => rfl) rfl dX0_putIn_30 ?_
      exact r_return X dX0_putIn_31
set_option maxRecDepth 100000 in
set_option maxHeartbeats 4000000 in
theorem c_X1r_countIn (l : Launch) (D : va_G) (cI cZ : ClassId) (α : Nat → Nat) (A : Nat → Prop) (hJ : ∀ σ, va_D A ((kwX cI α) σ)) (x1 : Int32) (σ : KS) : Ct l D (tyA cI cZ) (kwX cI α) A yX1_countIn cX1_countIn 2 (some .int) 1 vI [.ref (α 2), .int x1] σ (m_X1r_countIn x1 σ) := by
  refine Ct.of (own := RX1) hJ (by decide) rfl (Nat.le_of_ble_eq_true rfl) ?_
  intro p e s m args below meth c X
  refine r_sub (lv' := [(0, .ref (α 2)), (1, .int x1)]) [0, 1] rfl ?_
  unfold m_X1r_countIn
  refine r_iload_n X (j := 1) dX1_countIn_0 rfl rfl ?_
  refine r_callNi X (n := 1) (As := [.int x1]) (st := []) (c_X2_isFrame l D cI cZ α A hJ x1 σ) X.2.2.1.2.2 sm_X2_isFrame ii_X2 co_X2_isFrame (by decide +kernel) ⟨Nat.le_of_ble_eq_true rfl, Nat.le_of_ble_eq_true rfl⟩ rfl rfl (Nat.le_of_ble_eq_true rfl) dX1_countIn_1 (fun r_1 σ_1 hc_1 => ?_)
  refine r_if_eq X (tgt := 19) dX1_countIn_4 (by decide) (fun _ => ?_) (fun _ => ?_)
  · refine r_iconst X (v := 0) dX1_countIn_19 (by decide) ?_
    exact r_ireturn X dX1_countIn_20
  · refine r_aload_n X (j := 0) dX1_countIn_7 rfl rfl ?_
    refine r_get X (ci := 1) (q0 := 2) (v := .ref (α 6)) inX1 rfl rfl 1 (by decide) rfl fl_X1_15 dX1_countIn_8 ?_
    refine r_iload_n X (j := 1) dX1_countIn_11 rfl rfl ?_
    refine r_iald X (q0 := 6) (t0 := 0) (kk := 6) rfl rfl dX1_countIn_12 ?_
    refine r_callSi X (n := 1) (As := [.int (rd σ_1 6 x1)]) (st := []) (c_J6_bitCount_0f7a4 l D cI cZ α A hJ (rd σ_1 6 x1) σ_1) ml_X1_23 sm_J6_bitCount_0f7a4 ii_J6 co_J6_bitCount_0f7a4 (by decide +kernel) ⟨Nat.le_of_ble_eq_true rfl, Nat.le_of_ble_eq_true rfl⟩ rfl rfl (Nat.le_of_ble_eq_true rfl) dX1_countIn_13 (fun r_13 σ_13 hc_13 => ?_)
    refine r_goto X (tgt := 20) dX1_countIn_16 (by decide) ?_
    exact r_ireturn X dX1_countIn_20
set_option maxRecDepth 100000 in
set_option maxHeartbeats 4000000 in
theorem c_X1t_countIn (l : Launch) (D : va_G) (cI cZ : ClassId) (α : Nat → Nat) (A : Nat → Prop) (hJ : ∀ σ, va_D A ((kwX cI α) σ)) (x1 : Int32) (σ : KS) : Ct l D (tyA cI cZ) (kwX cI α) A yX1_countIn cX1_countIn 2 (some .int) 1 vI [.ref (α 3), .int x1] σ (m_X1t_countIn x1 σ) := by
  refine Ct.of (own := RX1) hJ (by decide) rfl (Nat.le_of_ble_eq_true rfl) ?_
  intro p e s m args below meth c X
  refine r_sub (lv' := [(0, .ref (α 3)), (1, .int x1)]) [0, 1] rfl ?_
  unfold m_X1t_countIn
  refine r_iload_n X (j := 1) dX1_countIn_0 rfl rfl ?_
  refine r_callNi X (n := 1) (As := [.int x1]) (st := []) (c_X2_isFrame l D cI cZ α A hJ x1 σ) X.2.2.1.2.2 sm_X2_isFrame ii_X2 co_X2_isFrame (by decide +kernel) ⟨Nat.le_of_ble_eq_true rfl, Nat.le_of_ble_eq_true rfl⟩ rfl rfl (Nat.le_of_ble_eq_true rfl) dX1_countIn_1 (fun r_1 σ_1 hc_1 => ?_)
  refine r_if_eq X (tgt := 19) dX1_countIn_4 (by decide) (fun _ => ?_) (fun _ => ?_)
  · refine r_iconst X (v := 0) dX1_countIn_19 (by decide) ?_
    exact r_ireturn X dX1_countIn_20
  · refine r_aload_n X (j := 0) dX1_countIn_7 rfl rfl ?_
    refine r_get X (ci := 1) (q0 := 3) (v := .ref (α 7)) inX1 rfl rfl 1 (by decide) rfl fl_X1_15 dX1_countIn_8 ?_
    refine r_iload_n X (j := 1) dX1_countIn_11 rfl rfl ?_
    refine r_iald X (q0 := 7) (t0 := 0) (kk := 7) rfl rfl dX1_countIn_12 ?_
    refine r_callSi X (n := 1) (As := [.int (rd σ_1 7 x1)]) (st := []) (c_J6_bitCount_0f7a4 l D cI cZ α A hJ (rd σ_1 7 x1) σ_1) ml_X1_23 sm_J6_bitCount_0f7a4 ii_J6 co_J6_bitCount_0f7a4 (by decide +kernel) ⟨Nat.le_of_ble_eq_true rfl, Nat.le_of_ble_eq_true rfl⟩ rfl rfl (Nat.le_of_ble_eq_true rfl) dX1_countIn_13 (fun r_13 σ_13 hc_13 => ?_)
    refine r_goto X (tgt := 20) dX1_countIn_16 (by decide) ?_
    exact r_ireturn X dX1_countIn_20
set_option maxRecDepth 100000 in
set_option maxHeartbeats 4000000 in
theorem cl_X2_isKernels_2 (l : Launch) (D : va_G) (cI cZ : ClassId) (α : Nat → Nat) (A : Nat → Prop) (hJ : ∀ σ, va_D A ((kwX cI α) σ)) {p : Program} {e : Env} {s : State} {m : MethodId} {args : Array Value} {below : List Frame} {meth : Method} {c : Code} (X : CX p s m args meth c cX2_isKernels 4 RX2 D (tyA cI cZ) (kwX cI α) A (some .boolean)) : ∀ (n : Nat) (x1 : Int32) (x2 : Int32) (σ : KS), Cr p l e (rmd 1) s m args below meth c 4 D (kwX cI α) A vI 2 [(0, .ref (α 0)), (1, .int x1), (2, .int x2)] [] σ (f_X2_isKernels_2 n x1 x2 σ) := by
  intro n
  induction n with
  | zero => intros; exact r_none
  | succ n ih =>
    intro x1 x2 σ
    rw [f_X2_isKernels_2]
    refine r_iload_n X (j := 2) dX2_isKernels_2 rfl rfl ?_
    refine r_bipush X (v := 7) dX2_isKernels_3 (by decide) ?_
    refine r_icmp_gt X (tgt := 39) dX2_isKernels_5 (by decide) (fun _ => ?_) (fun _ => ?_)
    · refine r_iconst X (v := 0) dX2_isKernels_39 (by decide) ?_
      exact r_zreturn X (by decide) dX2_isKernels_40
    · refine r_iload_n X (j := 1) dX2_isKernels_8 rfl rfl ?_
      refine r_iload_n X (j := 2) dX2_isKernels_9 rfl rfl ?_
      refine r_ishr X dX2_isKernels_10 ?_
      refine r_iload_n X (j := 2) dX2_isKernels_11 rfl rfl ?_
      refine r_ishl X dX2_isKernels_12 ?_
      refine r_istore_n X (lv' := [(3, .int ((x1 >>> (x2 &&& 31)) <<< (x2 &&& 31))), (0, .ref (α 0)), (1, .int x1), (2, .int x2)]) dX2_isKernels_13 rfl (by decide) rfl ?_
      refine r_iload_n X (j := 0) dX2_isKernels_14 rfl rfl ?_
      refine r_callSi X (n := 1) (As := [.int ((x1 >>> (x2 &&& 31)) <<< (x2 &&& 31))]) (st := []) (c_X2_isFrame l D cI cZ α A hJ ((x1 >>> (x2 &&& 31)) <<< (x2 &&& 31)) σ) ml_X2_124 sm_X2_isFrame ii_X2 co_X2_isFrame (by decide +kernel) ⟨Nat.le_of_ble_eq_true rfl, Nat.le_of_ble_eq_true rfl⟩ rfl rfl (Nat.le_of_ble_eq_true rfl) dX2_isKernels_15 (fun r_15 σ_15 hc_15 => ?_)
      refine r_if_eq X (tgt := 33) dX2_isKernels_18 (by decide) (fun _ => ?_) (fun _ => ?_)
      · refine r_iinc X (j := 3) (v := (x2 + 1)) (lv' := [(2, .int (x2 + 1)), (3, .int ((x1 >>> (x2 &&& 31)) <<< (x2 &&& 31))), (0, .ref (α 0)), (1, .int x1)]) dX2_isKernels_33 rfl rfl (by decide) rfl ?_
        refine r_goto X (tgt := 2) dX2_isKernels_36 (by decide) ?_
        refine r_sub (lv' := [(0, .ref (α 0)), (1, .int x1), (2, .int (x2 + 1))]) [2, 3, 0] rfl ?_
        exact ih x1 (x2 + 1) σ_15
      · refine r_aload_n X (j := 1) dX2_isKernels_21 rfl rfl ?_
        refine r_get X (ci := 2) (q0 := 0) (v := .ref (α 10)) inX2 rfl rfl 5 (by decide) rfl fl_X2_35 dX2_isKernels_22 ?_
        refine r_iload_n X (j := 0) dX2_isKernels_25 rfl rfl ?_
        refine r_iald X (q0 := 10) (t0 := 0) (kk := 10) rfl rfl dX2_isKernels_26 ?_
        refine r_iload_n X (j := 3) dX2_isKernels_27 rfl rfl ?_
        refine r_icmp_ne X (tgt := 33) dX2_isKernels_28 (by decide) (fun _ => ?_) (fun _ => ?_)
        · refine r_iconst X (v := 1) dX2_isKernels_31 (by decide) ?_
          exact r_zreturn X (by decide) dX2_isKernels_32
        · refine r_iinc X (j := 3) (v := (x2 + 1)) (lv' := [(2, .int (x2 + 1)), (3, .int ((x1 >>> (x2 &&& 31)) <<< (x2 &&& 31))), (0, .ref (α 0)), (1, .int x1)]) dX2_isKernels_33 rfl rfl (by decide) rfl ?_
          refine r_goto X (tgt := 2) dX2_isKernels_36 (by decide) ?_
          refine r_sub (lv' := [(0, .ref (α 0)), (1, .int x1), (2, .int (x2 + 1))]) [2, 3, 0] rfl ?_
          exact ih x1 (x2 + 1) σ_15
set_option maxRecDepth 100000 in
set_option maxHeartbeats 4000000 in
theorem c_X2_isKernels (l : Launch) (D : va_G) (cI cZ : ClassId) (α : Nat → Nat) (A : Nat → Prop) (hJ : ∀ σ, va_D A ((kwX cI α) σ)) (x1 : Int32) (σ : KS) : Ct l D (tyA cI cZ) (kwX cI α) A yX2_isKernels cX2_isKernels 4 (some .boolean) 1 vI [.ref (α 0), .int x1] σ (m_X2_isKernels x1 σ) := by
  refine Ct.of (own := RX2) hJ (by decide) rfl (Nat.le_of_ble_eq_true rfl) ?_
  intro p e s m args below meth c X
  refine r_sub (lv' := [(0, .ref (α 0)), (1, .int x1)]) [0, 1] rfl ?_
  unfold m_X2_isKernels
  refine r_iconst X (v := 0) dX2_isKernels_0 (by decide) ?_
  refine r_istore_n X (lv' := [(2, .int 0), (0, .ref (α 0)), (1, .int x1)]) dX2_isKernels_1 rfl (by decide) rfl ?_
  refine r_sub (lv' := [(0, .ref (α 0)), (1, .int x1), (2, .int 0)]) [1, 2, 0] rfl ?_
  exact cl_X2_isKernels_2 l D cI cZ α A hJ X FU x1 0 σ
end
section
set_option maxRecDepth 100000 in
set_option maxHeartbeats 4000000 in
theorem c_X2_isLive (l : Launch) (D : va_G) (cI cZ : ClassId) (α : Nat → Nat) (A : Nat → Prop) (hJ : ∀ σ, va_D A ((kwX cI α) σ)) (x1 : Int32) (σ : KS) : Ct l D (tyA cI cZ) (kwX cI α) A yX2_isLive cX2_isLive 2 (some .boolean) 1 vI [.ref (α 0), .int x1] σ (m_X2_isLive x1 σ) := by
  refine Ct.of (own := RX2) hJ (by decide) rfl (Nat.le_of_ble_eq_true rfl) ?_
  intro p e s m args below meth c X
  refine r_sub (lv' := [(0, .ref (α 0)), (1, .int x1)]) [0, 1] rfl ?_
  unfold m_X2_isLive
  refine r_iload_n X (j := 1) dX2_isLive_0 rfl rfl ?_
  refine r_callSi X (n := 1) (As := [.int x1]) (st := []) (c_X2_isNumber l D cI cZ α A hJ x1 σ) ml_X2_145 sm_X2_isNumber ii_X2 co_X2_isNumber (by decide +kernel) ⟨Nat.le_of_ble_eq_true rfl, Nat.le_of_ble_eq_true rfl⟩ rfl rfl (Nat.le_of_ble_eq_true rfl) dX2_isLive_1 (fun r_1 σ_1 hc_1 => ?_)
  refine r_if_eq X (tgt := 21) dX2_isLive_4 (by decide) (fun _ => ?_) (fun _ => ?_)
  · refine r_iconst X (v := 0) dX2_isLive_21 (by decide) ?_
    exact r_zreturn X (by decide) dX2_isLive_22
  · refine r_aload_n X (j := 0) dX2_isLive_7 rfl rfl ?_
    refine r_get X (ci := 2) (q0 := 0) (v := .ref (α 11)) inX2 rfl rfl 6 (by decide) rfl fl_X2_38 dX2_isLive_8 ?_
    refine r_iload_n X (j := 1) dX2_isLive_11 rfl rfl ?_
    refine r_iald X (q0 := 11) (t0 := 0) (kk := 11) rfl rfl dX2_isLive_12 ?_
    refine r_iconst X (v := 1) dX2_isLive_13 (by decide) ?_
    refine r_icmp_ne X (tgt := 21) dX2_isLive_14 (by decide) (fun _ => ?_) (fun _ => ?_)
    · refine r_iconst X (v := 1) dX2_isLive_17 (by decide) ?_
      refine r_goto X (tgt := 22) dX2_isLive_18 (by decide) ?_
      exact r_zreturn X (by decide) dX2_isLive_22
    · refine r_iconst X (v := 0) dX2_isLive_21 (by decide) ?_
      exact r_zreturn X (by decide) dX2_isLive_22
set_option maxRecDepth 100000 in
set_option maxHeartbeats 4000000 in
theorem c_X2_pageIndex (l : Launch) (D : va_G) (cI cZ : ClassId) (α : Nat → Nat) (A : Nat → Prop) (hJ : ∀ σ, va_D A ((kwX cI α) σ)) (x1 x2 : Int32) (σ : KS) : Ct l D (tyA cI cZ) (kwX cI α) A yX2_pageIndex cX2_pageIndex 3 (some .int) 1 vI [.ref (α 0), .int x1, .int x2] σ (m_X2_pageIndex x1 x2 σ) := by
  refine Ct.of (own := RX2) hJ (by decide) rfl (Nat.le_of_ble_eq_true rfl) ?_
  intro p e s m args below meth c X
  refine r_sub (lv' := [(0, .ref (α 0)), (1, .int x1), (2, .int x2)]) [0, 1, 2] rfl ?_
  unfold m_X2_pageIndex
  refine r_aload_n X (j := 0) dX2_pageIndex_0 rfl rfl ?_
  refine r_aload_n X (j := 0) dX2_pageIndex_1 rfl rfl ?_
  refine r_iload_n X (j := 1) dX2_pageIndex_2 rfl rfl ?_
  refine r_iload_n X (j := 2) dX2_pageIndex_3 rfl rfl ?_
  refine r_callVi X (q0 := 0) (ci := 2) (n := 2) (As := [.int x1, .int x2]) (st := [.ref (α 0)]) (c_X2_tableIndex l D cI cZ α A hJ x1 x2 σ) ml_X2_190 im_X2_tableIndex se_X2_tableIndex ii_X2 co_X2_tableIndex (by decide +kernel) ⟨Nat.le_of_ble_eq_true rfl, Nat.le_of_ble_eq_true rfl⟩ rfl rfl rfl rfl (Nat.le_of_ble_eq_true rfl) dX2_pageIndex_4 (fun r_4 σ_4 hc_4 => ?_)
  refine r_callVi X (q0 := 0) (ci := 2) (n := 1) (As := [.int r_4]) (st := []) (c_X2_wordAt l D cI cZ α A hJ r_4 σ_4) ml_X2_86 im_X2_wordAt se_X2_wordAt ii_X2 co_X2_wordAt (by decide +kernel) ⟨Nat.le_of_ble_eq_true rfl, Nat.le_of_ble_eq_true rfl⟩ rfl rfl rfl rfl (Nat.le_of_ble_eq_true rfl) dX2_pageIndex_7 (fun r_7 σ_7 hc_7 => ?_)
  refine r_bipush X (v := 16) dX2_pageIndex_10 (by decide) ?_
  refine r_imul X dX2_pageIndex_12 ?_
  refine r_iload_n X (j := 2) dX2_pageIndex_13 rfl rfl ?_
  refine r_bipush X (v := 16) dX2_pageIndex_14 (by decide) ?_
  refine r_irem X dX2_pageIndex_16 (by decide) ?_
  refine r_iadd X dX2_pageIndex_17 ?_
  exact r_ireturn X dX2_pageIndex_18
set_option maxRecDepth 100000 in
set_option maxHeartbeats 4000000 in
theorem c_X2_process (l : Launch) (D : va_G) (cI cZ : ClassId) (α : Nat → Nat) (A : Nat → Prop) (hJ : ∀ σ, va_D A ((kwX cI α) σ)) (x1 x2 : Int32) (σ : KS) : Ct l D (tyA cI cZ) (kwX cI α) A yX2_process cX2_process 3 (some .int) 1 vI [.ref (α 0), .int x1, .int x2] σ (m_X2_process x1 x2 σ) := by
  refine Ct.of (own := RX2) hJ (by decide) rfl (Nat.le_of_ble_eq_true rfl) ?_
  intro p e s m args below meth c X
  refine r_sub (lv' := [(0, .ref (α 0)), (1, .int x1), (2, .int x2)]) [0, 1, 2] rfl ?_
  unfold m_X2_process
  refine r_iload_n X (j := 1) dX2_process_0 rfl rfl ?_
  refine r_callSi X (n := 1) (As := [.int x1]) (st := []) (c_X2_isNumber l D cI cZ α A hJ x1 σ) ml_X2_145 sm_X2_isNumber ii_X2 co_X2_isNumber (by decide +kernel) ⟨Nat.le_of_ble_eq_true rfl, Nat.le_of_ble_eq_true rfl⟩ rfl rfl (Nat.le_of_ble_eq_true rfl) dX2_process_1 (fun r_1 σ_1 hc_1 => ?_)
  refine r_if_ne X (tgt := 10) dX2_process_4 (by decide) (fun _ => ?_) (fun _ => ?_)
  · refine r_bipush X (v := (-2)) dX2_process_7 (by decide) ?_
    exact r_ireturn X dX2_process_9
  · refine r_iload_n X (j := 2) dX2_process_10 rfl rfl ?_
    refine r_ite (fun hs0 => ?_) (fun hs0 => ?_)
    · refine r_tabIn X (off := 33) (tgt := 44) dX2_process_11 (by rw [hs0]; decide) (by rw [hs0]; decide) (by rw [hs0]; decide) (by decide) ?_
      refine r_aload_n X (j := 0) dX2_process_44 rfl rfl ?_
      refine r_get X (ci := 2) (q0 := 0) (v := .ref (α 11)) inX2 rfl rfl 6 (by decide) rfl fl_X2_38 dX2_process_45 ?_
      refine r_iload_n X (j := 1) dX2_process_48 rfl rfl ?_
      refine r_iald X (q0 := 11) (t0 := 0) (kk := 11) rfl rfl dX2_process_49 ?_
      exact r_ireturn X dX2_process_50
    · refine r_ite (fun hs1 => ?_) (fun hs1 => ?_)
      · refine r_tabIn X (off := 40) (tgt := 51) dX2_process_11 (by rw [hs1]; decide) (by rw [hs1]; decide) (by rw [hs1]; decide) (by decide) ?_
        refine r_aload_n X (j := 0) dX2_process_51 rfl rfl ?_
        refine r_get X (ci := 2) (q0 := 0) (v := .ref (α 14)) inX2 rfl rfl 9 (by decide) rfl fl_X2_47 dX2_process_52 ?_
        refine r_iload_n X (j := 1) dX2_process_55 rfl rfl ?_
        refine r_iald X (q0 := 14) (t0 := 0) (kk := 14) rfl rfl dX2_process_56 ?_
        exact r_ireturn X dX2_process_57
      · refine r_ite (fun hs2 => ?_) (fun hs2 => ?_)
        · refine r_tabIn X (off := 47) (tgt := 58) dX2_process_11 (by rw [hs2]; decide) (by rw [hs2]; decide) (by rw [hs2]; decide) (by decide) ?_
          refine r_aload_n X (j := 0) dX2_process_58 rfl rfl ?_
          refine r_get X (ci := 2) (q0 := 0) (v := .ref (α 12)) inX2 rfl rfl 7 (by decide) rfl fl_X2_41 dX2_process_59 ?_
          refine r_iload_n X (j := 1) dX2_process_62 rfl rfl ?_
          refine r_iald X (q0 := 12) (t0 := 0) (kk := 12) rfl rfl dX2_process_63 ?_
          exact r_ireturn X dX2_process_64
        · refine r_ite (fun hs3 => ?_) (fun hs3 => ?_)
          · refine r_tabIn X (off := 54) (tgt := 65) dX2_process_11 (by rw [hs3]; decide) (by rw [hs3]; decide) (by rw [hs3]; decide) (by decide) ?_
            refine r_aload_n X (j := 0) dX2_process_65 rfl rfl ?_
            refine r_iload_n X (j := 1) dX2_process_66 rfl rfl ?_
            refine r_callVi X (q0 := 0) (ci := 2) (n := 1) (As := [.int x1]) (st := []) (c_X2_childrenOf l D cI cZ α A hJ x1 σ_1) ml_X2_105 im_X2_childrenOf se_X2_childrenOf ii_X2 co_X2_childrenOf (by decide +kernel) ⟨Nat.le_of_ble_eq_true rfl, Nat.le_of_ble_eq_true rfl⟩ rfl rfl rfl rfl (Nat.le_of_ble_eq_true rfl) dX2_process_67 (fun r_67 σ_67 hc_67 => ?_)
            exact r_ireturn X dX2_process_70
          · refine r_ite (fun hs4 => ?_) (fun hs4 => ?_)
            · refine r_tabIn X (off := 60) (tgt := 71) dX2_process_11 (by rw [hs4]; decide) (by rw [hs4]; decide) (by rw [hs4]; decide) (by decide) ?_
              refine r_aload_n X (j := 0) dX2_process_71 rfl rfl ?_
              refine r_iload_n X (j := 1) dX2_process_72 rfl rfl ?_
              refine r_callVi X (q0 := 0) (ci := 2) (n := 1) (As := [.int x1]) (st := []) (c_X2_placeInRow l D cI cZ α A hJ x1 σ_1) ml_X2_148 im_X2_placeInRow se_X2_placeInRow ii_X2 co_X2_placeInRow (by decide +kernel) ⟨Nat.le_of_ble_eq_true rfl, Nat.le_of_ble_eq_true rfl⟩ rfl rfl rfl rfl (Nat.le_of_ble_eq_true rfl) dX2_process_73 (fun r_73 σ_73 hc_73 => ?_)
              exact r_ireturn X dX2_process_76
            · refine r_tabOut X (tgt := 77) dX2_process_11 (by have hq0 := lv_neT hs0 (a := 0) (by decide); have hq1 := lv_neT hs1 (a := 1) (by decide); have hq2 := lv_neT hs2 (a := 2) (by decide); have hq3 := lv_neT hs3 (a := 3) (by decide); have hq4 := lv_neT hs4 (a := 4) (by decide); omega) (by decide) ?_
              refine r_bipush X (v := (-2)) dX2_process_77 (by decide) ?_
              exact r_ireturn X dX2_process_79
set_option maxRecDepth 100000 in
set_option maxHeartbeats 4000000 in
theorem c_X2_tick (l : Launch) (D : va_G) (cI cZ : ClassId) (α : Nat → Nat) (A : Nat → Prop) (hJ : ∀ σ, va_D A ((kwX cI α) σ)) (σ : KS) : Ct l D (tyA cI cZ) (kwX cI α) A yX2_tick cX2_tick 2 (some .int) 1 vI [.ref (α 0)] σ (m_X2_tick σ) := by
  refine Ct.of (own := RX2) hJ (by decide) rfl (Nat.le_of_ble_eq_true rfl) ?_
  intro p e s m args below meth c X
  refine r_sub (lv' := [(0, .ref (α 0))]) [0] rfl ?_
  unfold m_X2_tick
  refine r_aload_n X (j := 0) dX2_tick_0 rfl rfl ?_
  refine r_get X (ci := 2) (q0 := 0) (v := .int (gv σ 0)) inX2 rfl rfl 12 (by decide) rfl fl_X2_108 dX2_tick_1 ?_
  refine r_if_ne X (tgt := 9) dX2_tick_4 (by decide) (fun _ => ?_) (fun _ => ?_)
  · refine r_iconst X (v := (-1)) dX2_tick_7 (by decide) ?_
    exact r_ireturn X dX2_tick_8
  · refine r_aload_n X (j := 0) dX2_tick_9 rfl rfl ?_
    refine r_get X (ci := 2) (q0 := 0) (v := .ref (α 16)) inX2 rfl rfl 11 (by decide) rfl fl_X2_53 dX2_tick_10 ?_
    refine r_iconst X (v := 0) dX2_tick_13 (by decide) ?_
    refine r_iald X (q0 := 16) (t0 := 0) (kk := 16) rfl rfl dX2_tick_14 ?_
    refine r_istore_n X (lv' := [(1, .int (rd σ 16 0)), (0, .ref (α 0))]) dX2_tick_15 rfl (by decide) rfl ?_
    refine r_aload_n X (j := 1) dX2_tick_16 rfl rfl ?_
    refine r_iload_n X (j := 0) dX2_tick_17 rfl rfl ?_
    refine r_callVv X (q0 := 0) (ci := 2) (n := 1) (As := [.int (rd σ 16 0)]) (st := []) (c_X2_leaveRow l D cI cZ α A hJ (rd σ 16 0) σ) ml_X2_95 im_X2_leaveRow se_X2_leaveRow ii_X2 co_X2_leaveRow (by decide +kernel) ⟨Nat.le_of_ble_eq_true rfl, Nat.le_of_ble_eq_true rfl⟩ rfl rfl rfl rfl (Nat.le_of_ble_eq_true rfl) dX2_tick_18 (fun r_18 σ_18 hc_18 => ?_)
    refine r_aload_n X (j := 1) dX2_tick_21 rfl rfl ?_
    refine r_iload_n X (j := 0) dX2_tick_22 rfl rfl ?_
    refine r_callVv X (q0 := 0) (ci := 2) (n := 1) (As := [.int (rd σ 16 0)]) (st := []) (c_X2_joinRow l D cI cZ α A hJ (rd σ 16 0) σ_18) ml_X2_112 im_X2_joinRow se_X2_joinRow ii_X2 co_X2_joinRow (by decide +kernel) ⟨Nat.le_of_ble_eq_true rfl, Nat.le_of_ble_eq_true rfl⟩ rfl rfl rfl rfl (Nat.le_of_ble_eq_true rfl) dX2_tick_23 (fun r_23 σ_23 hc_23 => ?_)
    refine r_aload_n X (j := 1) dX2_tick_26 rfl rfl ?_
    refine r_dup X dX2_tick_27 rfl ?_
    refine r_get X (ci := 2) (q0 := 0) (v := .int (gv σ_23 3)) inX2 rfl rfl 15 (by decide) rfl fl_X2_115 dX2_tick_28 ?_
    refine r_iconst X (v := 1) dX2_tick_31 (by decide) ?_
    refine r_iadd X dX2_tick_32 ?_
    refine r_put X (ci := 2) (q0 := 0) (j := 3) inX2 rfl tyX2_ok nmX2 rfl 15 (by decide) rfl fl_X2_115 rfl (by decide +kernel) (Nat.le_of_ble_eq_true rfl) dX2_tick_33 ?_
    refine r_aload_n X (j := 1) dX2_tick_36 rfl rfl ?_
    refine r_get X (ci := 2) (q0 := 0) (v := .ref (α 16)) inX2 rfl rfl 11 (by decide) rfl fl_X2_53 dX2_tick_37 ?_
    refine r_iconst X (v := 0) dX2_tick_40 (by decide) ?_
    refine r_iald X (q0 := 16) (t0 := 0) (kk := 16) rfl rfl dX2_tick_41 ?_
    exact r_ireturn X dX2_tick_42
set_option maxRecDepth 100000 in
set_option maxHeartbeats 4000000 in
theorem c_X2_told (l : Launch) (D : va_G) (cI cZ : ClassId) (α : Nat → Nat) (A : Nat → Prop) (hJ : ∀ σ, va_D A ((kwX cI α) σ)) (x1 : Int32) (σ : KS) : Ct l D (tyA cI cZ) (kwX cI α) A yX2_told cX2_told 2 (some .int) 1 vI [.ref (α 0), .int x1] σ (m_X2_told x1 σ) := by
  refine Ct.of (own := RX2) hJ (by decide) rfl (Nat.le_of_ble_eq_true rfl) ?_
  intro p e s m args below meth c X
  refine r_sub (lv' := [(0, .ref (α 0)), (1, .int x1)]) [0, 1] rfl ?_
  unfold m_X2_told
  refine r_iload_n X (j := 1) dX2_told_0 rfl rfl ?_
  refine r_ite (fun hs0 => ?_) (fun hs0 => ?_)
  · refine r_tabIn X (off := 35) (tgt := 36) dX2_told_1 (by rw [hs0]; decide) (by rw [hs0]; decide) (by rw [hs0]; decide) (by decide) ?_
    refine r_aload_n X (j := 0) dX2_told_36 rfl rfl ?_
    refine r_iconst X (v := 1) dX2_told_37 (by decide) ?_
    refine r_callVi X (q0 := 0) (ci := 2) (n := 1) (As := [.int 1]) (st := []) (c_X2_countInState l D cI cZ α A hJ 1 σ) ml_X2_151 im_X2_countInState se_X2_countInState ii_X2 co_X2_countInState (by decide +kernel) ⟨Nat.le_of_ble_eq_true rfl, Nat.le_of_ble_eq_true rfl⟩ rfl rfl rfl rfl (Nat.le_of_ble_eq_true rfl) dX2_told_38 (fun r_38 σ_38 hc_38 => ?_)
    exact r_ireturn X dX2_told_41
  · refine r_ite (fun hs1 => ?_) (fun hs1 => ?_)
    · refine r_tabIn X (off := 41) (tgt := 42) dX2_told_1 (by rw [hs1]; decide) (by rw [hs1]; decide) (by rw [hs1]; decide) (by decide) ?_
      refine r_aload_n X (j := 0) dX2_told_42 rfl rfl ?_
      refine r_iconst X (v := 2) dX2_told_43 (by decide) ?_
      refine r_callVi X (q0 := 0) (ci := 2) (n := 1) (As := [.int 2]) (st := []) (c_X2_countInState l D cI cZ α A hJ 2 σ) ml_X2_151 im_X2_countInState se_X2_countInState ii_X2 co_X2_countInState (by decide +kernel) ⟨Nat.le_of_ble_eq_true rfl, Nat.le_of_ble_eq_true rfl⟩ rfl rfl rfl rfl (Nat.le_of_ble_eq_true rfl) dX2_told_44 (fun r_44 σ_44 hc_44 => ?_)
      exact r_ireturn X dX2_told_47
    · refine r_ite (fun hs2 => ?_) (fun hs2 => ?_)
      · refine r_tabIn X (off := 47) (tgt := 48) dX2_told_1 (by rw [hs2]; decide) (by rw [hs2]; decide) (by rw [hs2]; decide) (by decide) ?_
        refine r_aload_n X (j := 0) dX2_told_48 rfl rfl ?_
        refine r_get X (ci := 2) (q0 := 0) (v := .int (gv σ 1)) inX2 rfl rfl 13 (by decide) rfl fl_X2_154 dX2_told_49 ?_
        exact r_ireturn X dX2_told_52
      · refine r_ite (fun hs3 => ?_) (fun hs3 => ?_)
        · refine r_tabIn X (off := 52) (tgt := 53) dX2_told_1 (by rw [hs3]; decide) (by rw [hs3]; decide) (by rw [hs3]; decide) (by decide) ?_
          refine r_aload_n X (j := 0) dX2_told_53 rfl rfl ?_
          refine r_get X (ci := 2) (q0 := 0) (v := .int (gv σ 2)) inX2 rfl rfl 14 (by decide) rfl fl_X2_157 dX2_told_54 ?_
          exact r_ireturn X dX2_told_57
        · refine r_ite (fun hs4 => ?_) (fun hs4 => ?_)
          · refine r_tabIn X (off := 57) (tgt := 58) dX2_told_1 (by rw [hs4]; decide) (by rw [hs4]; decide) (by rw [hs4]; decide) (by decide) ?_
            refine r_aload_n X (j := 0) dX2_told_58 rfl rfl ?_
            refine r_get X (ci := 2) (q0 := 0) (v := .int (gv σ 3)) inX2 rfl rfl 15 (by decide) rfl fl_X2_115 dX2_told_59 ?_
            exact r_ireturn X dX2_told_62
          · refine r_tabOut X (tgt := 63) dX2_told_1 (by have hq0 := lv_neT hs0 (a := 0) (by decide); have hq1 := lv_neT hs1 (a := 1) (by decide); have hq2 := lv_neT hs2 (a := 2) (by decide); have hq3 := lv_neT hs3 (a := 3) (by decide); have hq4 := lv_neT hs4 (a := 4) (by decide); omega) (by decide) ?_
            refine r_bipush X (v := (-2)) dX2_told_63 (by decide) ?_
            exact r_ireturn X dX2_told_65
set_option maxRecDepth 100000 in
set_option maxHeartbeats 4000000 in
theorem cl_X0_giveBlock_5 (l : Launch) (D : va_G) (cI cZ : ClassId) (α : Nat → Nat) (A : Nat → Prop) (hJ : ∀ σ, va_D A ((kwX cI α) σ)) {p : Program} {e : Env} {s : State} {m : MethodId} {args : Array Value} {below : List Frame} {meth : Method} {c : Code} (X : CX p s m args meth c cX0_giveBlock 5 RX0 D (tyA cI cZ) (kwX cI α) A none) : ∀ (n : Nat) (x1 : Int32) (x2 : Int32) (x3 : Int32) (x4 : Int32) (σ : KS), Cr p l e (rmd 2) s m args below meth c 5 D (kwX cI α) A vV 5 [(0, .ref (α 1)), (1, .int x1), (2, .int x2), (3, .int x3), (4, .int x4)] [] σ (f_X0_giveBlock_5 n x1 x2 x3 x4 σ) := by
  intro n
  induction n with
  | zero => intros; exact r_none
  | succ n ih =>
    intro x1 x2 x3 x4 σ
    rw [f_X0_giveBlock_5]
    refine r_iload X (j := 4) dX0_giveBlock_5 rfl ?_
    refine r_bipush X (v := 7) dX0_giveBlock_7 (by decide) ?_
    refine r_icmp_ge X (tgt := 54) dX0_giveBlock_9 (by decide) (fun _ => ?_) (fun _ => ?_)
    · refine r_aload_n X (j := 0) dX0_giveBlock_54 rfl rfl ?_
      refine r_iload_n X (j := 3) dX0_giveBlock_55 rfl rfl ?_
      refine r_iload X (j := 4) dX0_giveBlock_56 rfl ?_
      refine r_callVv X (q0 := 1) (ci := 0) (n := 2) (As := [.int x3, .int x4]) (st := []) (c_X0_putIn l D cI cZ α A hJ x3 x4 σ) ml_X0_33 im_X0_putIn se_X0_putIn ii_X0 co_X0_putIn (by decide +kernel) ⟨Nat.le_of_ble_eq_true rfl, Nat.le_of_ble_eq_true rfl⟩ rfl rfl rfl rfl (Nat.le_of_ble_eq_true rfl) dX0_giveBlock_58 (fun r_58 σ_58 hc_58 => ?_)
      exact r_return X dX0_giveBlock_61
    · refine r_aload_n X (j := 0) dX0_giveBlock_12 rfl rfl ?_
      refine r_iload_n X (j := 3) dX0_giveBlock_13 rfl rfl ?_
      refine r_iconst X (v := 1) dX0_giveBlock_14 (by decide) ?_
      refine r_iload X (j := 4) dX0_giveBlock_15 rfl ?_
      refine r_ishl X dX0_giveBlock_17 ?_
      refine r_ixor X dX0_giveBlock_18 ?_
      refine r_iload X (j := 4) dX0_giveBlock_19 rfl ?_
      refine r_callVi X (q0 := 1) (ci := 0) (n := 2) (As := [.int (x3 ^^^ ((1 : Int32) <<< (x4 &&& 31))), .int x4]) (st := []) (c_X0_isFreeBlock l D cI cZ α A hJ (x3 ^^^ ((1 : Int32) <<< (x4 &&& 31))) x4 σ) ml_X0_36 im_X0_isFreeBlock se_X0_isFreeBlock ii_X0 co_X0_isFreeBlock (by decide +kernel) ⟨Nat.le_of_ble_eq_true rfl, Nat.le_of_ble_eq_true rfl⟩ rfl rfl rfl rfl (Nat.le_of_ble_eq_true rfl) dX0_giveBlock_21 (fun r_21 σ_21 hc_21 => ?_)
      refine r_if_eq X (tgt := 54) dX0_giveBlock_24 (by decide) (fun _ => ?_) (fun _ => ?_)
      · refine r_aload_n X (j := 0) dX0_giveBlock_54 rfl rfl ?_
        refine r_iload_n X (j := 3) dX0_giveBlock_55 rfl rfl ?_
        refine r_iload X (j := 4) dX0_giveBlock_56 rfl ?_
        refine r_callVv X (q0 := 1) (ci := 0) (n := 2) (As := [.int x3, .int x4]) (st := []) (c_X0_putIn l D cI cZ α A hJ x3 x4 σ_21) ml_X0_33 im_X0_putIn se_X0_putIn ii_X0 co_X0_putIn (by decide +kernel) ⟨Nat.le_of_ble_eq_true rfl, Nat.le_of_ble_eq_true rfl⟩ rfl rfl rfl rfl (Nat.le_of_ble_eq_true rfl) dX0_giveBlock_58 (fun r_58 σ_58 hc_58 => ?_)
        exact r_return X dX0_giveBlock_61
      · refine r_aload_n X (j := 0) dX0_giveBlock_27 rfl rfl ?_
        refine r_iload_n X (j := 3) dX0_giveBlock_28 rfl rfl ?_
        refine r_iconst X (v := 1) dX0_giveBlock_29 (by decide) ?_
        refine r_iload X (j := 4) dX0_giveBlock_30 rfl ?_
        refine r_ishl X dX0_giveBlock_32 ?_
        refine r_ixor X dX0_giveBlock_33 ?_
        refine r_iload X (j := 4) dX0_giveBlock_34 rfl ?_
        refine r_callVv X (q0 := 1) (ci := 0) (n := 2) (As := [.int (x3 ^^^ ((1 : Int32) <<< (x4 &&& 31))), .int x4]) (st := []) (c_X0_leaveOut l D cI cZ α A hJ (x3 ^^^ ((1 : Int32) <<< (x4 &&& 31))) x4 σ_21) ml_X0_29 im_X0_leaveOut se_X0_leaveOut ii_X0 co_X0_leaveOut (by decide +kernel) ⟨Nat.le_of_ble_eq_true rfl, Nat.le_of_ble_eq_true rfl⟩ rfl rfl rfl rfl (Nat.le_of_ble_eq_true rfl) dX0_giveBlock_36 (fun r_36 σ_36 hc_36 => ?_)
        refine r_iload_n X (j := 3) dX0_giveBlock_39 rfl rfl ?_
        refine r_iconst X (v := 1) dX0_giveBlock_40 (by decide) ?_
        refine r_iload X (j := 4) dX0_giveBlock_41 rfl ?_
        refine r_ishl X dX0_giveBlock_43 ?_
        refine r_iconst X (v := (-1)) dX0_giveBlock_44 (by decide) ?_
        refine r_ixor X dX0_giveBlock_45 ?_
        refine r_iand X dX0_giveBlock_46 ?_
        refine r_istore_n X (lv' := [(3, .int (x3 &&& (((1 : Int32) <<< (x4 &&& 31)) ^^^ (-1)))), (0, .ref (α 1)), (1, .int x1), (2, .int x2), (4, .int x4)]) dX0_giveBlock_47 rfl (by decide) rfl ?_
        refine r_iinc X (j := 4) (v := (x4 + 1)) (lv' := [(4, .int (x4 + 1)), (3, .int (x3 &&& (((1 : Int32) <<< (x4 &&& 31)) ^^^ (-1)))), (0, .ref (α 1)), (1, .int x1), (2, .int x2)]) dX0_giveBlock_48 rfl rfl (by decide) rfl ?_
        refine r_goto X (tgt := 5) dX0_giveBlock_51 (by decide) ?_
        refine r_sub (lv' := [(0, .ref (α 1)), (1, .int x1), (2, .int x2), (3, .int (x3 &&& (((1 : Int32) <<< (x4 &&& 31)) ^^^ (-1)))), (4, .int (x4 + 1))]) [2, 3, 4, 1, 0] rfl ?_
        exact ih x1 x2 (x3 &&& (((1 : Int32) <<< (x4 &&& 31)) ^^^ (-1))) (x4 + 1) σ_36
set_option maxRecDepth 100000 in
set_option maxHeartbeats 4000000 in
theorem c_X0_giveBlock (l : Launch) (D : va_G) (cI cZ : ClassId) (α : Nat → Nat) (A : Nat → Prop) (hJ : ∀ σ, va_D A ((kwX cI α) σ)) (x1 x2 : Int32) (σ : KS) : Ct l D (tyA cI cZ) (kwX cI α) A yX0_giveBlock cX0_giveBlock 5 none 2 vV [.ref (α 1), .int x1, .int x2] σ (m_X0_giveBlock x1 x2 σ) := by
  refine Ct.of (own := RX0) hJ (by decide) rfl (Nat.le_of_ble_eq_true rfl) ?_
  intro p e s m args below meth c X
  refine r_sub (lv' := [(0, .ref (α 1)), (1, .int x1), (2, .int x2)]) [0, 1, 2] rfl ?_
  unfold m_X0_giveBlock
  refine r_iload_n X (j := 1) dX0_giveBlock_0 rfl rfl ?_
  refine r_istore_n X (lv' := [(3, .int x1), (0, .ref (α 1)), (1, .int x1), (2, .int x2)]) dX0_giveBlock_1 rfl (by decide) rfl ?_
  refine r_iload_n X (j := 3) dX0_giveBlock_2 rfl rfl ?_
  refine r_istore X (lv' := [(4, .int x2), (3, .int x1), (0, .ref (α 1)), (1, .int x1), (2, .int x2)]) dX0_giveBlock_3 (by decide) rfl ?_
  refine r_sub (lv' := [(0, .ref (α 1)), (1, .int x1), (2, .int x2), (3, .int x1), (4, .int x2)]) [2, 3, 4, 1, 0] rfl ?_
  exact cl_X0_giveBlock_5 l D cI cZ α A hJ X FU x1 x2 x1 x2 σ
set_option maxRecDepth 100000 in
set_option maxHeartbeats 4000000 in
theorem cl_X0_leastOf_12 (l : Launch) (D : va_G) (cI cZ : ClassId) (α : Nat → Nat) (A : Nat → Prop) (hJ : ∀ σ, va_D A ((kwX cI α) σ)) {p : Program} {e : Env} {s : State} {m : MethodId} {args : Array Value} {below : List Frame} {meth : Method} {c : Code} (X : CX p s m args meth c cX0_leastOf 3 RX0 D (tyA cI cZ) (kwX cI α) A (some .int)) : ∀ (n : Nat) (x1 : Int32) (x2 : Int32) (σ : KS), Cr p l e (rmd 2) s m args below meth c 3 D (kwX cI α) A vI 12 [(0, .ref (α 1)), (1, .int x1), (2, .int x2)] [] σ (f_X0_leastOf_12 n x1 x2 σ) := by
  intro n
  induction n with
  | zero => intros; exact r_none
  | succ n ih =>
    intro x1 x2 σ
    rw [f_X0_leastOf_12]
    refine r_iload_n X (j := 2) dX0_leastOf_12 rfl rfl ?_
    refine r_sipush X (v := 128) dX0_leastOf_13 (by decide) ?_
    refine r_icmp_ge X (tgt := 40) dX0_leastOf_16 (by decide) (fun _ => ?_) (fun _ => ?_)
    · refine r_iconst X (v := (-1)) dX0_leastOf_40 (by decide) ?_
      exact r_ireturn X dX0_leastOf_41
    · refine r_aload_n X (j := 0) dX0_leastOf_19 rfl rfl ?_
      refine r_get X (ci := 0) (q0 := 1) (v := .ref (α 4)) inX0 rfl rfl 0 (by decide) rfl fl_X0_9 dX0_leastOf_20 ?_
      refine r_iload_n X (j := 2) dX0_leastOf_23 rfl rfl ?_
      refine r_iald X (q0 := 4) (t0 := 0) (kk := 4) rfl rfl dX0_leastOf_24 ?_
      refine r_iload_n X (j := 1) dX0_leastOf_25 rfl rfl ?_
      refine r_icmp_ne X (tgt := 31) dX0_leastOf_26 (by decide) (fun _ => ?_) (fun _ => ?_)
      · refine r_iload_n X (j := 2) dX0_leastOf_29 rfl rfl ?_
        exact r_ireturn X dX0_leastOf_30
      · refine r_iload_n X (j := 2) dX0_leastOf_31 rfl rfl ?_
        refine r_iconst X (v := 1) dX0_leastOf_32 (by decide) ?_
        refine r_iload_n X (j := 1) dX0_leastOf_33 rfl rfl ?_
        refine r_ishl X dX0_leastOf_34 ?_
        refine r_iadd X dX0_leastOf_35 ?_
        refine r_istore_n X (lv' := [(2, .int (x2 + ((1 : Int32) <<< (x1 &&& 31)))), (0, .ref (α 1)), (1, .int x1)]) dX0_leastOf_36 rfl (by decide) rfl ?_
        refine r_goto X (tgt := 12) dX0_leastOf_37 (by decide) ?_
        refine r_sub (lv' := [(0, .ref (α 1)), (1, .int x1), (2, .int (x2 + ((1 : Int32) <<< (x1 &&& 31))))]) [1, 2, 0] rfl ?_
        exact ih x1 (x2 + ((1 : Int32) <<< (x1 &&& 31))) σ
set_option maxRecDepth 100000 in
set_option maxHeartbeats 4000000 in
theorem c_X0_leastOf (l : Launch) (D : va_G) (cI cZ : ClassId) (α : Nat → Nat) (A : Nat → Prop) (hJ : ∀ σ, va_D A ((kwX cI α) σ)) (x1 : Int32) (σ : KS) : Ct l D (tyA cI cZ) (kwX cI α) A yX0_leastOf cX0_leastOf 3 (some .int) 2 vI [.ref (α 1), .int x1] σ (m_X0_leastOf x1 σ) := by
  refine Ct.of (own := RX0) hJ (by decide) rfl (Nat.le_of_ble_eq_true rfl) ?_
  intro p e s m args below meth c X
  refine r_sub (lv' := [(0, .ref (α 1)), (1, .int x1)]) [0, 1] rfl ?_
  unfold m_X0_leastOf
  refine r_aload_n X (j := 0) dX0_leastOf_0 rfl rfl ?_
  refine r_iload_n X (j := 1) dX0_leastOf_1 rfl rfl ?_
  refine r_callVi X (q0 := 1) (ci := 0) (n := 1) (As := [.int x1]) (st := []) (c_X0_countOf l D cI cZ α A hJ x1 σ) ml_X0_22 im_X0_countOf se_X0_countOf ii_X0 co_X0_countOf (by decide +kernel) ⟨Nat.le_of_ble_eq_true rfl, Nat.le_of_ble_eq_true rfl⟩ rfl rfl rfl rfl (Nat.le_of_ble_eq_true rfl) dX0_leastOf_2 (fun r_2 σ_2 hc_2 => ?_)
  refine r_if_ne X (tgt := 10) dX0_leastOf_5 (by decide) (fun _ => ?_) (fun _ => ?_)
  · refine r_iconst X (v := (-1)) dX0_leastOf_8 (by decide) ?_
    exact r_ireturn X dX0_leastOf_9
  · refine r_iconst X (v := 0) dX0_leastOf_10 (by decide) ?_
    refine r_istore_n X (lv' := [(2, .int 0), (0, .ref (α 1)), (1, .int x1)]) dX0_leastOf_11 rfl (by decide) rfl ?_
    refine r_sub (lv' := [(0, .ref (α 1)), (1, .int x1), (2, .int 0)]) [1, 2, 0] rfl ?_
    exact cl_X0_leastOf_12 l D cI cZ α A hJ X FU x1 0 σ_2
set_option maxRecDepth 100000 in
set_option maxHeartbeats 4000000 in
theorem cl_X2_freeFrames_4 (l : Launch) (D : va_G) (cI cZ : ClassId) (α : Nat → Nat) (A : Nat → Prop) (hJ : ∀ σ, va_D A ((kwX cI α) σ)) {p : Program} {e : Env} {s : State} {m : MethodId} {args : Array Value} {below : List Frame} {meth : Method} {c : Code} (X : CX p s m args meth c cX2_freeFrames 3 RX2 D (tyA cI cZ) (kwX cI α) A (some .int)) : ∀ (n : Nat) (x1 : Int32) (x2 : Int32) (σ : KS), Cr p l e (rmd 2) s m args below meth c 3 D (kwX cI α) A vI 4 [(0, .ref (α 0)), (1, .int x1), (2, .int x2)] [] σ (f_X2_freeFrames_4 n x1 x2 σ) := by
  intro n
  induction n with
  | zero => intros; exact r_none
  | succ n ih =>
    intro x1 x2 σ
    rw [f_X2_freeFrames_4]
    refine r_iload_n X (j := 2) dX2_freeFrames_4 rfl rfl ?_
    refine r_bipush X (v := 7) dX2_freeFrames_5 (by decide) ?_
    refine r_icmp_gt X (tgt := 29) dX2_freeFrames_7 (by decide) (fun _ => ?_) (fun _ => ?_)
    · refine r_iload_n X (j := 1) dX2_freeFrames_29 rfl rfl ?_
      exact r_ireturn X dX2_freeFrames_30
    · refine r_iload_n X (j := 1) dX2_freeFrames_10 rfl rfl ?_
      refine r_aload_n X (j := 0) dX2_freeFrames_11 rfl rfl ?_
      refine r_get X (ci := 2) (q0 := 0) (v := .ref (α 1)) inX2 rfl rfl 0 (by decide) rfl fl_X2_10 dX2_freeFrames_12 ?_
      refine r_iload_n X (j := 2) dX2_freeFrames_15 rfl rfl ?_
      refine r_callVi X (q0 := 1) (ci := 0) (n := 1) (As := [.int x2]) (st := [.int x1]) (c_X0_countOf l D cI cZ α A hJ x2 σ) ml_X2_130 im_X0_countOf se_X0_countOf ii_X0 co_X0_countOf (by decide +kernel) ⟨Nat.le_of_ble_eq_true rfl, Nat.le_of_ble_eq_true rfl⟩ rfl rfl rfl rfl (Nat.le_of_ble_eq_true rfl) dX2_freeFrames_16 (fun r_16 σ_16 hc_16 => ?_)
      refine r_iload_n X (j := 2) dX2_freeFrames_19 rfl rfl ?_
      refine r_ishl X dX2_freeFrames_20 ?_
      refine r_iadd X dX2_freeFrames_21 ?_
      refine r_istore_n X (lv' := [(1, .int (x1 + (r_16 <<< (x2 &&& 31)))), (0, .ref (α 0)), (2, .int x2)]) dX2_freeFrames_22 rfl (by decide) rfl ?_
      refine r_iinc X (j := 2) (v := (x2 + 1)) (lv' := [(2, .int (x2 + 1)), (1, .int (x1 + (r_16 <<< (x2 &&& 31)))), (0, .ref (α 0))]) dX2_freeFrames_23 rfl rfl (by decide) rfl ?_
      refine r_goto X (tgt := 4) dX2_freeFrames_26 (by decide) ?_
      refine r_sub (lv' := [(0, .ref (α 0)), (1, .int (x1 + (r_16 <<< (x2 &&& 31)))), (2, .int (x2 + 1))]) [2, 1, 0] rfl ?_
      exact ih (x1 + (r_16 <<< (x2 &&& 31))) (x2 + 1) σ_16
set_option maxRecDepth 100000 in
set_option maxHeartbeats 4000000 in
theorem c_X2_freeFrames (l : Launch) (D : va_G) (cI cZ : ClassId) (α : Nat → Nat) (A : Nat → Prop) (hJ : ∀ σ, va_D A ((kwX cI α) σ)) (σ : KS) : Ct l D (tyA cI cZ) (kwX cI α) A yX2_freeFrames cX2_freeFrames 3 (some .int) 2 vI [.ref (α 0)] σ (m_X2_freeFrames σ) := by
  refine Ct.of (own := RX2) hJ (by decide) rfl (Nat.le_of_ble_eq_true rfl) ?_
  intro p e s m args below meth c X
  refine r_sub (lv' := [(0, .ref (α 0))]) [0] rfl ?_
  unfold m_X2_freeFrames
  refine r_iconst X (v := 0) dX2_freeFrames_0 (by decide) ?_
  refine r_istore_n X (lv' := [(1, .int 0), (0, .ref (α 0))]) dX2_freeFrames_1 rfl (by decide) rfl ?_
  refine r_iconst X (v := 0) dX2_freeFrames_2 (by decide) ?_
  refine r_istore_n X (lv' := [(2, .int 0), (1, .int 0), (0, .ref (α 0))]) dX2_freeFrames_3 rfl (by decide) rfl ?_
  refine r_sub (lv' := [(0, .ref (α 0)), (1, .int 0), (2, .int 0)]) [2, 1, 0] rfl ?_
  exact cl_X2_freeFrames_4 l D cI cZ α A hJ X FU 0 0 σ
set_option maxRecDepth 100000 in
set_option maxHeartbeats 4000000 in
theorem c_X2_hasPage (l : Launch) (D : va_G) (cI cZ : ClassId) (α : Nat → Nat) (A : Nat → Prop) (hJ : ∀ σ, va_D A ((kwX cI α) σ)) (x1 x2 : Int32) (σ : KS) : Ct l D (tyA cI cZ) (kwX cI α) A yX2_hasPage cX2_hasPage 3 (some .boolean) 2 vI [.ref (α 0), .int x1, .int x2] σ (m_X2_hasPage x1 x2 σ) := by
  refine Ct.of (own := RX2) hJ (by decide) rfl (Nat.le_of_ble_eq_true rfl) ?_
  intro p e s m args below meth c X
  refine r_sub (lv' := [(0, .ref (α 0)), (1, .int x1), (2, .int x2)]) [0, 1, 2] rfl ?_
  unfold m_X2_hasPage
  refine r_aload_n X (j := 0) dX2_hasPage_0 rfl rfl ?_
  refine r_iload_n X (j := 1) dX2_hasPage_1 rfl rfl ?_
  refine r_callVi X (q0 := 0) (ci := 2) (n := 1) (As := [.int x1]) (st := []) (c_X2_isLive l D cI cZ α A hJ x1 σ) ml_X2_60 im_X2_isLive se_X2_isLive ii_X2 co_X2_isLive (by decide +kernel) ⟨Nat.le_of_ble_eq_true rfl, Nat.le_of_ble_eq_true rfl⟩ rfl rfl rfl rfl (Nat.le_of_ble_eq_true rfl) dX2_hasPage_2 (fun r_2 σ_2 hc_2 => ?_)
  refine r_if_eq X (tgt := 26) dX2_hasPage_5 (by decide) (fun _ => ?_) (fun _ => ?_)
  · refine r_iconst X (v := 0) dX2_hasPage_26 (by decide) ?_
    exact r_zreturn X (by decide) dX2_hasPage_27
  · refine r_iload_n X (j := 2) dX2_hasPage_8 rfl rfl ?_
    refine r_if_lt X (tgt := 26) dX2_hasPage_9 (by decide) (fun _ => ?_) (fun _ => ?_)
    · refine r_iconst X (v := 0) dX2_hasPage_26 (by decide) ?_
      exact r_zreturn X (by decide) dX2_hasPage_27
    · refine r_iload_n X (j := 2) dX2_hasPage_12 rfl rfl ?_
      refine r_aload_n X (j := 0) dX2_hasPage_13 rfl rfl ?_
      refine r_get X (ci := 2) (q0 := 0) (v := .ref (α 14)) inX2 rfl rfl 9 (by decide) rfl fl_X2_47 dX2_hasPage_14 ?_
      refine r_iload_n X (j := 1) dX2_hasPage_17 rfl rfl ?_
      refine r_iald X (q0 := 14) (t0 := 0) (kk := 14) rfl rfl dX2_hasPage_18 ?_
      refine r_icmp_ge X (tgt := 26) dX2_hasPage_19 (by decide) (fun _ => ?_) (fun _ => ?_)
      · refine r_iconst X (v := 0) dX2_hasPage_26 (by decide) ?_
        exact r_zreturn X (by decide) dX2_hasPage_27
      · refine r_iconst X (v := 1) dX2_hasPage_22 (by decide) ?_
        refine r_goto X (tgt := 27) dX2_hasPage_23 (by decide) ?_
        exact r_zreturn X (by decide) dX2_hasPage_27
set_option maxRecDepth 100000 in
set_option maxHeartbeats 4000000 in
theorem c_X2_kindOf (l : Launch) (D : va_G) (cI cZ : ClassId) (α : Nat → Nat) (A : Nat → Prop) (hJ : ∀ σ, va_D A ((kwX cI α) σ)) (x1 : Int32) (σ : KS) : Ct l D (tyA cI cZ) (kwX cI α) A yX2_kindOf cX2_kindOf 2 (some .int) 2 vI [.ref (α 0), .int x1] σ (m_X2_kindOf x1 σ) := by
  refine Ct.of (own := RX2) hJ (by decide) rfl (Nat.le_of_ble_eq_true rfl) ?_
  intro p e s m args below meth c X
  refine r_sub (lv' := [(0, .ref (α 0)), (1, .int x1)]) [0, 1] rfl ?_
  unfold m_X2_kindOf
  refine r_aload_n X (j := 0) dX2_kindOf_0 rfl rfl ?_
  refine r_get X (ci := 2) (q0 := 0) (v := .ref (α 2)) inX2 rfl rfl 1 (by decide) rfl fl_X2_21 dX2_kindOf_1 ?_
  refine r_iload_n X (j := 1) dX2_kindOf_4 rfl rfl ?_
  refine r_callVi X (q0 := 2) (ci := 1) (n := 1) (As := [.int x1]) (st := []) (c_X1r_countIn l D cI cZ α A hJ x1 σ) ml_X2_142 im_X1_countIn se_X1_countIn ii_X1 co_X1_countIn (by decide +kernel) ⟨Nat.le_of_ble_eq_true rfl, Nat.le_of_ble_eq_true rfl⟩ rfl rfl rfl rfl (Nat.le_of_ble_eq_true rfl) dX2_kindOf_5 (fun r_5 σ_5 hc_5 => ?_)
  refine r_if_le X (tgt := 13) dX2_kindOf_8 (by decide) (fun _ => ?_) (fun _ => ?_)
  · refine r_aload_n X (j := 0) dX2_kindOf_13 rfl rfl ?_
    refine r_get X (ci := 2) (q0 := 0) (v := .ref (α 3)) inX2 rfl rfl 2 (by decide) rfl fl_X2_25 dX2_kindOf_14 ?_
    refine r_iload_n X (j := 1) dX2_kindOf_17 rfl rfl ?_
    refine r_callVi X (q0 := 3) (ci := 1) (n := 1) (As := [.int x1]) (st := []) (c_X1t_countIn l D cI cZ α A hJ x1 σ_5) ml_X2_142 im_X1_countIn se_X1_countIn ii_X1 co_X1_countIn (by decide +kernel) ⟨Nat.le_of_ble_eq_true rfl, Nat.le_of_ble_eq_true rfl⟩ rfl rfl rfl rfl (Nat.le_of_ble_eq_true rfl) dX2_kindOf_18 (fun r_18 σ_18 hc_18 => ?_)
    refine r_if_le X (tgt := 26) dX2_kindOf_21 (by decide) (fun _ => ?_) (fun _ => ?_)
    · refine r_iload_n X (j := 1) dX2_kindOf_26 rfl rfl ?_
      refine r_callSi X (n := 1) (As := [.int x1]) (st := []) (c_X2_isFrame l D cI cZ α A hJ x1 σ_18) ml_X2_124 sm_X2_isFrame ii_X2 co_X2_isFrame (by decide +kernel) ⟨Nat.le_of_ble_eq_true rfl, Nat.le_of_ble_eq_true rfl⟩ rfl rfl (Nat.le_of_ble_eq_true rfl) dX2_kindOf_27 (fun r_27 σ_27 hc_27 => ?_)
      refine r_if_eq X (tgt := 44) dX2_kindOf_30 (by decide) (fun _ => ?_) (fun _ => ?_)
      · refine r_aload_n X (j := 0) dX2_kindOf_44 rfl rfl ?_
        refine r_iload_n X (j := 1) dX2_kindOf_45 rfl rfl ?_
        refine r_callVi X (q0 := 0) (ci := 2) (n := 1) (As := [.int x1]) (st := []) (c_X2_isKernels l D cI cZ α A hJ x1 σ_27) ml_X2_193 im_X2_isKernels se_X2_isKernels ii_X2 co_X2_isKernels (by decide +kernel) ⟨Nat.le_of_ble_eq_true rfl, Nat.le_of_ble_eq_true rfl⟩ rfl rfl rfl rfl (Nat.le_of_ble_eq_true rfl) dX2_kindOf_46 (fun r_46 σ_46 hc_46 => ?_)
        refine r_if_eq X (tgt := 56) dX2_kindOf_49 (by decide) (fun _ => ?_) (fun _ => ?_)
        · refine r_iconst X (v := 0) dX2_kindOf_56 (by decide) ?_
          exact r_ireturn X dX2_kindOf_57
        · refine r_iconst X (v := 4) dX2_kindOf_52 (by decide) ?_
          refine r_goto X (tgt := 57) dX2_kindOf_53 (by decide) ?_
          exact r_ireturn X dX2_kindOf_57
      · refine r_aload_n X (j := 0) dX2_kindOf_33 rfl rfl ?_
        refine r_get X (ci := 2) (q0 := 0) (v := .ref (α 9)) inX2 rfl rfl 4 (by decide) rfl fl_X2_32 dX2_kindOf_34 ?_
        refine r_iload_n X (j := 1) dX2_kindOf_37 rfl rfl ?_
        refine r_iald X (q0 := 9) (t0 := 0) (kk := 9) rfl rfl dX2_kindOf_38 ?_
        refine r_if_le X (tgt := 44) dX2_kindOf_39 (by decide) (fun _ => ?_) (fun _ => ?_)
        · refine r_aload_n X (j := 0) dX2_kindOf_44 rfl rfl ?_
          refine r_iload_n X (j := 1) dX2_kindOf_45 rfl rfl ?_
          refine r_callVi X (q0 := 0) (ci := 2) (n := 1) (As := [.int x1]) (st := []) (c_X2_isKernels l D cI cZ α A hJ x1 σ_27) ml_X2_193 im_X2_isKernels se_X2_isKernels ii_X2 co_X2_isKernels (by decide +kernel) ⟨Nat.le_of_ble_eq_true rfl, Nat.le_of_ble_eq_true rfl⟩ rfl rfl rfl rfl (Nat.le_of_ble_eq_true rfl) dX2_kindOf_46 (fun r_46 σ_46 hc_46 => ?_)
          refine r_if_eq X (tgt := 56) dX2_kindOf_49 (by decide) (fun _ => ?_) (fun _ => ?_)
          · refine r_iconst X (v := 0) dX2_kindOf_56 (by decide) ?_
            exact r_ireturn X dX2_kindOf_57
          · refine r_iconst X (v := 4) dX2_kindOf_52 (by decide) ?_
            refine r_goto X (tgt := 57) dX2_kindOf_53 (by decide) ?_
            exact r_ireturn X dX2_kindOf_57
        · refine r_iconst X (v := 3) dX2_kindOf_42 (by decide) ?_
          exact r_ireturn X dX2_kindOf_43
    · refine r_iconst X (v := 2) dX2_kindOf_24 (by decide) ?_
      exact r_ireturn X dX2_kindOf_25
  · refine r_iconst X (v := 1) dX2_kindOf_11 (by decide) ?_
    exact r_ireturn X dX2_kindOf_12
set_option maxRecDepth 100000 in
set_option maxHeartbeats 4000000 in
theorem cl_X0_takeBlock_30 (l : Launch) (D : va_G) (cI cZ : ClassId) (α : Nat → Nat) (A : Nat → Prop) (hJ : ∀ σ, va_D A ((kwX cI α) σ)) {p : Program} {e : Env} {s : State} {m : MethodId} {args : Array Value} {below : List Frame} {meth : Method} {c : Code} (X : CX p s m args meth c cX0_takeBlock 5 RX0 D (tyA cI cZ) (kwX cI α) A (some .int)) : ∀ (n : Nat) (x1 : Int32) (x2 : Int32) (x3 : Int32) (x4 : Int32) (σ : KS), Cr p l e (rmd 3) s m args below meth c 5 D (kwX cI α) A vI 30 [(0, .ref (α 1)), (1, .int x1), (2, .int x2), (3, .int x3), (4, .int x4)] [] σ (f_X0_takeBlock_30 n x1 x2 x3 x4 σ) := by
  intro n
  induction n with
  | zero => intros; exact r_none
  | succ n ih =>
    intro x1 x2 x3 x4 σ
    rw [f_X0_takeBlock_30]
    refine r_iload X (j := 4) dX0_takeBlock_30 rfl ?_
    refine r_iload_n X (j := 1) dX0_takeBlock_32 rfl rfl ?_
    refine r_icmp_lt X (tgt := 54) dX0_takeBlock_33 (by decide) (fun _ => ?_) (fun _ => ?_)
    · refine r_iload_n X (j := 3) dX0_takeBlock_54 rfl rfl ?_
      exact r_ireturn X dX0_takeBlock_55
    · refine r_aload_n X (j := 0) dX0_takeBlock_36 rfl rfl ?_
      refine r_iload_n X (j := 3) dX0_takeBlock_37 rfl rfl ?_
      refine r_iconst X (v := 1) dX0_takeBlock_38 (by decide) ?_
      refine r_iload X (j := 4) dX0_takeBlock_39 rfl ?_
      refine r_ishl X dX0_takeBlock_41 ?_
      refine r_iadd X dX0_takeBlock_42 ?_
      refine r_iload X (j := 4) dX0_takeBlock_43 rfl ?_
      refine r_callVv X (q0 := 1) (ci := 0) (n := 2) (As := [.int (x3 + ((1 : Int32) <<< (x4 &&& 31))), .int x4]) (st := []) (c_X0_putIn l D cI cZ α A hJ (x3 + ((1 : Int32) <<< (x4 &&& 31))) x4 σ) ml_X0_33 im_X0_putIn se_X0_putIn ii_X0 co_X0_putIn (by decide +kernel) ⟨Nat.le_of_ble_eq_true rfl, Nat.le_of_ble_eq_true rfl⟩ rfl rfl rfl rfl (Nat.le_of_ble_eq_true rfl) dX0_takeBlock_45 (fun r_45 σ_45 hc_45 => ?_)
      refine r_iinc X (j := 4) (v := (x4 + (-1))) (lv' := [(4, .int (x4 + (-1))), (0, .ref (α 1)), (1, .int x1), (2, .int x2), (3, .int x3)]) dX0_takeBlock_48 rfl rfl (by decide) rfl ?_
      refine r_goto X (tgt := 30) dX0_takeBlock_51 (by decide) ?_
      refine r_sub (lv' := [(0, .ref (α 1)), (1, .int x1), (2, .int x2), (3, .int x3), (4, .int (x4 + (-1)))]) [1, 2, 3, 4, 0] rfl ?_
      exact ih x1 x2 x3 (x4 + (-1)) σ_45
set_option maxRecDepth 100000 in
set_option maxHeartbeats 4000000 in
theorem cl_X0_takeBlock_2 (l : Launch) (D : va_G) (cI cZ : ClassId) (α : Nat → Nat) (A : Nat → Prop) (hJ : ∀ σ, va_D A ((kwX cI α) σ)) {p : Program} {e : Env} {s : State} {m : MethodId} {args : Array Value} {below : List Frame} {meth : Method} {c : Code} (X : CX p s m args meth c cX0_takeBlock 5 RX0 D (tyA cI cZ) (kwX cI α) A (some .int)) : ∀ (n : Nat) (x1 : Int32) (x2 : Int32) (σ : KS), Cr p l e (rmd 3) s m args below meth c 5 D (kwX cI α) A vI 2 [(0, .ref (α 1)), (1, .int x1), (2, .int x2)] [] σ (f_X0_takeBlock_2 n x1 x2 σ) := by
  intro n
  induction n with
  | zero => intros; exact r_none
  | succ n ih =>
    intro x1 x2 σ
    rw [f_X0_takeBlock_2]
    refine r_iload_n X (j := 2) dX0_takeBlock_2 rfl rfl ?_
    refine r_bipush X (v := 7) dX0_takeBlock_3 (by decide) ?_
    refine r_icmp_gt X (tgt := 62) dX0_takeBlock_5 (by decide) (fun _ => ?_) (fun _ => ?_)
    · refine r_iconst X (v := (-1)) dX0_takeBlock_62 (by decide) ?_
      exact r_ireturn X dX0_takeBlock_63
    · refine r_aload_n X (j := 0) dX0_takeBlock_8 rfl rfl ?_
      refine r_iload_n X (j := 2) dX0_takeBlock_9 rfl rfl ?_
      refine r_callVi X (q0 := 1) (ci := 0) (n := 1) (As := [.int x2]) (st := []) (c_X0_leastOf l D cI cZ α A hJ x2 σ) ml_X0_26 im_X0_leastOf se_X0_leastOf ii_X0 co_X0_leastOf (by decide +kernel) ⟨Nat.le_of_ble_eq_true rfl, Nat.le_of_ble_eq_true rfl⟩ rfl rfl rfl rfl (Nat.le_of_ble_eq_true rfl) dX0_takeBlock_10 (fun r_10 σ_10 hc_10 => ?_)
      refine r_istore_n X (lv' := [(3, .int r_10), (0, .ref (α 1)), (1, .int x1), (2, .int x2)]) dX0_takeBlock_13 rfl (by decide) rfl ?_
      refine r_iload_n X (j := 0) dX0_takeBlock_14 rfl rfl ?_
      refine r_iconst X (v := (-1)) dX0_takeBlock_15 (by decide) ?_
      refine r_icmp_eq X (tgt := 56) dX0_takeBlock_16 (by decide) (fun _ => ?_) (fun _ => ?_)
      · refine r_iinc X (j := 3) (v := (x2 + 1)) (lv' := [(2, .int (x2 + 1)), (3, .int r_10), (0, .ref (α 1)), (1, .int x1)]) dX0_takeBlock_56 rfl rfl (by decide) rfl ?_
        refine r_goto X (tgt := 2) dX0_takeBlock_59 (by decide) ?_
        refine r_sub (lv' := [(0, .ref (α 1)), (1, .int x1), (2, .int (x2 + 1))]) [2, 3, 0] rfl ?_
        exact ih x1 (x2 + 1) σ_10
      · refine r_aload_n X (j := 1) dX0_takeBlock_19 rfl rfl ?_
        refine r_iload_n X (j := 0) dX0_takeBlock_20 rfl rfl ?_
        refine r_iload_n X (j := 3) dX0_takeBlock_21 rfl rfl ?_
        refine r_callVv X (q0 := 1) (ci := 0) (n := 2) (As := [.int r_10, .int x2]) (st := []) (c_X0_leaveOut l D cI cZ α A hJ r_10 x2 σ_10) ml_X0_29 im_X0_leaveOut se_X0_leaveOut ii_X0 co_X0_leaveOut (by decide +kernel) ⟨Nat.le_of_ble_eq_true rfl, Nat.le_of_ble_eq_true rfl⟩ rfl rfl rfl rfl (Nat.le_of_ble_eq_true rfl) dX0_takeBlock_22 (fun r_22 σ_22 hc_22 => ?_)
        refine r_iload_n X (j := 3) dX0_takeBlock_25 rfl rfl ?_
        refine r_iconst X (v := 1) dX0_takeBlock_26 (by decide) ?_
        refine r_isub X dX0_takeBlock_27 ?_
        refine r_istore X (lv' := [(4, .int (x2 - 1)), (3, .int r_10), (0, .ref (α 1)), (1, .int x1), (2, .int x2)]) dX0_takeBlock_28 (by decide) rfl ?_
        refine r_sub (lv' := [(0, .ref (α 1)), (1, .int x1), (2, .int x2), (3, .int r_10), (4, .int (x2 - 1))]) [2, 3, 4, 1, 0] rfl ?_
        exact cl_X0_takeBlock_30 l D cI cZ α A hJ X FU x1 x2 r_10 (x2 - 1) σ_22
set_option maxRecDepth 100000 in
set_option maxHeartbeats 4000000 in
theorem c_X0_takeBlock (l : Launch) (D : va_G) (cI cZ : ClassId) (α : Nat → Nat) (A : Nat → Prop) (hJ : ∀ σ, va_D A ((kwX cI α) σ)) (x1 : Int32) (σ : KS) : Ct l D (tyA cI cZ) (kwX cI α) A yX0_takeBlock cX0_takeBlock 5 (some .int) 3 vI [.ref (α 1), .int x1] σ (m_X0_takeBlock x1 σ) := by
  refine Ct.of (own := RX0) hJ (by decide) rfl (Nat.le_of_ble_eq_true rfl) ?_
  intro p e s m args below meth c X
  refine r_sub (lv' := [(0, .ref (α 1)), (1, .int x1)]) [0, 1] rfl ?_
  unfold m_X0_takeBlock
  refine r_iload_n X (j := 1) dX0_takeBlock_0 rfl rfl ?_
  refine r_istore_n X (lv' := [(2, .int x1), (0, .ref (α 1)), (1, .int x1)]) dX0_takeBlock_1 rfl (by decide) rfl ?_
  refine r_sub (lv' := [(0, .ref (α 1)), (1, .int x1), (2, .int x1)]) [1, 2, 0] rfl ?_
  exact cl_X0_takeBlock_2 l D cI cZ α A hJ X FU x1 x1 σ
set_option maxRecDepth 100000 in
set_option maxHeartbeats 4000000 in
theorem c_X1r_givePlace (l : Launch) (D : va_G) (cI cZ : ClassId) (α : Nat → Nat) (A : Nat → Prop) (hJ : ∀ σ, va_D A ((kwX cI α) σ)) (x1 : Int32) (σ : KS) : Ct l D (tyA cI cZ) (kwX cI α) A yX1_givePlace cX1_givePlace 3 none 3 vV [.ref (α 2), .int x1] σ (m_X1r_givePlace x1 σ) := by
  refine Ct.of (own := RX1) hJ (by decide) rfl (Nat.le_of_ble_eq_true rfl) ?_
  intro p e s m args below meth c X
  refine r_sub (lv' := [(0, .ref (α 2)), (1, .int x1)]) [0, 1] rfl ?_
  unfold m_X1r_givePlace
  refine r_iload_n X (j := 1) dX1_givePlace_0 rfl rfl ?_
  refine r_iconst X (v := 4) dX1_givePlace_1 (by decide) ?_
  refine r_idiv X dX1_givePlace_2 (by decide) ?_
  refine r_istore_n X (lv' := [(2, .int (x1 / 4)), (0, .ref (α 2)), (1, .int x1)]) dX1_givePlace_3 rfl (by decide) rfl ?_
  refine r_iload_n X (j := 2) dX1_givePlace_4 rfl rfl ?_
  refine r_if_lt X (tgt := 15) dX1_givePlace_5 (by decide) (fun _ => ?_) (fun _ => ?_)
  · exact r_return X dX1_givePlace_15
  · refine r_iload_n X (j := 0) dX1_givePlace_8 rfl rfl ?_
    refine r_callNi X (n := 1) (As := [.int (x1 / 4)]) (st := []) (c_X2_isFrame l D cI cZ α A hJ (x1 / 4) σ) X.2.2.1.2.2 sm_X2_isFrame ii_X2 co_X2_isFrame (by decide +kernel) ⟨Nat.le_of_ble_eq_true rfl, Nat.le_of_ble_eq_true rfl⟩ rfl rfl (Nat.le_of_ble_eq_true rfl) dX1_givePlace_9 (fun r_9 σ_9 hc_9 => ?_)
    refine r_if_ne X (tgt := 16) dX1_givePlace_12 (by decide) (fun _ => ?_) (fun _ => ?_)
    · exact r_return X dX1_givePlace_15
    · refine r_aload_n X (j := 1) dX1_givePlace_16 rfl rfl ?_
      refine r_get X (ci := 1) (q0 := 2) (v := .ref (α 6)) inX1 rfl rfl 1 (by decide) rfl fl_X1_15 dX1_givePlace_17 ?_
      refine r_iload_n X (j := 0) dX1_givePlace_20 rfl rfl ?_
      refine r_dup2 X dX1_givePlace_21 rfl rfl ?_
      refine r_iald X (q0 := 6) (t0 := 0) (kk := 6) rfl rfl dX1_givePlace_22 ?_
      refine r_iconst X (v := 1) dX1_givePlace_23 (by decide) ?_
      refine r_iload_n X (j := 2) dX1_givePlace_24 rfl rfl ?_
      refine r_iconst X (v := 4) dX1_givePlace_25 (by decide) ?_
      refine r_irem X dX1_givePlace_26 (by decide) ?_
      refine r_ishl X dX1_givePlace_27 ?_
      refine r_iconst X (v := (-1)) dX1_givePlace_28 (by decide) ?_
      refine r_ixor X dX1_givePlace_29 ?_
      refine r_iand X dX1_givePlace_30 ?_
      refine r_iast X (q0 := 6) (t0 := 0) (kk := 6) rfl (fun _ => rfl) rfl dX1_givePlace_31 ?_
      refine r_aload_n X (j := 1) dX1_givePlace_32 rfl rfl ?_
      refine r_get X (ci := 1) (q0 := 2) (v := .ref (α 6)) inX1 rfl rfl 1 (by decide) rfl fl_X1_15 dX1_givePlace_33 ?_
      refine r_iload_n X (j := 0) dX1_givePlace_36 rfl rfl ?_
      refine r_iald X (q0 := 6) (t0 := 0) (kk := 6) rfl rfl dX1_givePlace_37 ?_
      refine r_if_ne X (tgt := 50) dX1_givePlace_38 (by decide) (fun _ => ?_) (fun _ => ?_)
      · refine r_aload_n X (j := 1) dX1_givePlace_41 rfl rfl ?_
        refine r_get X (ci := 1) (q0 := 2) (v := .ref (α 1)) inX1 rfl rfl 0 (by decide) rfl fl_X1_9 dX1_givePlace_42 ?_
        refine r_iload_n X (j := 0) dX1_givePlace_45 rfl rfl ?_
        refine r_iconst X (v := 0) dX1_givePlace_46 (by decide) ?_
        refine r_callVv X (q0 := 1) (ci := 0) (n := 2) (As := [.int (x1 / 4), .int 0]) (st := []) (c_X0_giveBlock l D cI cZ α A hJ (x1 / 4) 0 (wr σ_9 6 (x1 / 4) ((rd σ_9 6 (x1 / 4)) &&& (((1 : Int32) <<< ((x1 - x1 / 4 * 4) &&& 31)) ^^^ (-1))))) ml_X1_38 im_X0_giveBlock se_X0_giveBlock ii_X0 co_X0_giveBlock (by decide +kernel) ⟨Nat.le_of_ble_eq_true rfl, Nat.le_of_ble_eq_true rfl⟩ rfl rfl rfl rfl (Nat.le_of_ble_eq_true rfl) dX1_givePlace_47 (fun r_47 σ_47 hc_47 => ?_)
        exact r_return X dX1_givePlace_50
      · exact r_return X dX1_givePlace_50
set_option maxRecDepth 100000 in
set_option maxHeartbeats 4000000 in
theorem c_X1t_givePlace (l : Launch) (D : va_G) (cI cZ : ClassId) (α : Nat → Nat) (A : Nat → Prop) (hJ : ∀ σ, va_D A ((kwX cI α) σ)) (x1 : Int32) (σ : KS) : Ct l D (tyA cI cZ) (kwX cI α) A yX1_givePlace cX1_givePlace 3 none 3 vV [.ref (α 3), .int x1] σ (m_X1t_givePlace x1 σ) := by
  refine Ct.of (own := RX1) hJ (by decide) rfl (Nat.le_of_ble_eq_true rfl) ?_
  intro p e s m args below meth c X
  refine r_sub (lv' := [(0, .ref (α 3)), (1, .int x1)]) [0, 1] rfl ?_
  unfold m_X1t_givePlace
  refine r_iload_n X (j := 1) dX1_givePlace_0 rfl rfl ?_
  refine r_iconst X (v := 4) dX1_givePlace_1 (by decide) ?_
  refine r_idiv X dX1_givePlace_2 (by decide) ?_
  refine r_istore_n X (lv' := [(2, .int (x1 / 4)), (0, .ref (α 3)), (1, .int x1)]) dX1_givePlace_3 rfl (by decide) rfl ?_
  refine r_iload_n X (j := 2) dX1_givePlace_4 rfl rfl ?_
  refine r_if_lt X (tgt := 15) dX1_givePlace_5 (by decide) (fun _ => ?_) (fun _ => ?_)
  · exact r_return X dX1_givePlace_15
  · refine r_iload_n X (j := 0) dX1_givePlace_8 rfl rfl ?_
    refine r_callNi X (n := 1) (As := [.int (x1 / 4)]) (st := []) (c_X2_isFrame l D cI cZ α A hJ (x1 / 4) σ) X.2.2.1.2.2 sm_X2_isFrame ii_X2 co_X2_isFrame (by decide +kernel) ⟨Nat.le_of_ble_eq_true rfl, Nat.le_of_ble_eq_true rfl⟩ rfl rfl (Nat.le_of_ble_eq_true rfl) dX1_givePlace_9 (fun r_9 σ_9 hc_9 => ?_)
    refine r_if_ne X (tgt := 16) dX1_givePlace_12 (by decide) (fun _ => ?_) (fun _ => ?_)
    · exact r_return X dX1_givePlace_15
    · refine r_aload_n X (j := 1) dX1_givePlace_16 rfl rfl ?_
      refine r_get X (ci := 1) (q0 := 3) (v := .ref (α 7)) inX1 rfl rfl 1 (by decide) rfl fl_X1_15 dX1_givePlace_17 ?_
      refine r_iload_n X (j := 0) dX1_givePlace_20 rfl rfl ?_
      refine r_dup2 X dX1_givePlace_21 rfl rfl ?_
      refine r_iald X (q0 := 7) (t0 := 0) (kk := 7) rfl rfl dX1_givePlace_22 ?_
      refine r_iconst X (v := 1) dX1_givePlace_23 (by decide) ?_
      refine r_iload_n X (j := 2) dX1_givePlace_24 rfl rfl ?_
      refine r_iconst X (v := 4) dX1_givePlace_25 (by decide) ?_
      refine r_irem X dX1_givePlace_26 (by decide) ?_
      refine r_ishl X dX1_givePlace_27 ?_
      refine r_iconst X (v := (-1)) dX1_givePlace_28 (by decide) ?_
      refine r_ixor X dX1_givePlace_29 ?_
      refine r_iand X dX1_givePlace_30 ?_
      refine r_iast X (q0 := 7) (t0 := 0) (kk := 7) rfl (fun _ => rfl) rfl dX1_givePlace_31 ?_
      refine r_aload_n X (j := 1) dX1_givePlace_32 rfl rfl ?_
      refine r_get X (ci := 1) (q0 := 3) (v := .ref (α 7)) inX1 rfl rfl 1 (by decide) rfl fl_X1_15 dX1_givePlace_33 ?_
      refine r_iload_n X (j := 0) dX1_givePlace_36 rfl rfl ?_
      refine r_iald X (q0 := 7) (t0 := 0) (kk := 7) rfl rfl dX1_givePlace_37 ?_
      refine r_if_ne X (tgt := 50) dX1_givePlace_38 (by decide) (fun _ => ?_) (fun _ => ?_)
      · refine r_aload_n X (j := 1) dX1_givePlace_41 rfl rfl ?_
        refine r_get X (ci := 1) (q0 := 3) (v := .ref (α 1)) inX1 rfl rfl 0 (by decide) rfl fl_X1_9 dX1_givePlace_42 ?_
        refine r_iload_n X (j := 0) dX1_givePlace_45 rfl rfl ?_
        refine r_iconst X (v := 0) dX1_givePlace_46 (by decide) ?_
        refine r_callVv X (q0 := 1) (ci := 0) (n := 2) (As := [.int (x1 / 4), .int 0]) (st := []) (c_X0_giveBlock l D cI cZ α A hJ (x1 / 4) 0 (wr σ_9 7 (x1 / 4) ((rd σ_9 7 (x1 / 4)) &&& (((1 : Int32) <<< ((x1 - x1 / 4 * 4) &&& 31)) ^^^ (-1))))) ml_X1_38 im_X0_giveBlock se_X0_giveBlock ii_X0 co_X0_giveBlock (by decide +kernel) ⟨Nat.le_of_ble_eq_true rfl, Nat.le_of_ble_eq_true rfl⟩ rfl rfl rfl rfl (Nat.le_of_ble_eq_true rfl) dX1_givePlace_47 (fun r_47 σ_47 hc_47 => ?_)
        exact r_return X dX1_givePlace_50
      · exact r_return X dX1_givePlace_50
set_option maxRecDepth 100000 in
set_option maxHeartbeats 4000000 in
theorem c_X2_about (l : Launch) (D : va_G) (cI cZ : ClassId) (α : Nat → Nat) (A : Nat → Prop) (hJ : ∀ σ, va_D A ((kwX cI α) σ)) (x1 x2 : Int32) (σ : KS) : Ct l D (tyA cI cZ) (kwX cI α) A yX2_about cX2_about 3 (some .int) 3 vI [.ref (α 0), .int x1, .int x2] σ (m_X2_about x1 x2 σ) := by
  refine Ct.of (own := RX2) hJ (by decide) rfl (Nat.le_of_ble_eq_true rfl) ?_
  intro p e s m args below meth c X
  refine r_sub (lv' := [(0, .ref (α 0)), (1, .int x1), (2, .int x2)]) [0, 1, 2] rfl ?_
  unfold m_X2_about
  refine r_iload_n X (j := 1) dX2_about_0 rfl rfl ?_
  refine r_callSi X (n := 1) (As := [.int x1]) (st := []) (c_X2_isFrame l D cI cZ α A hJ x1 σ) ml_X2_124 sm_X2_isFrame ii_X2 co_X2_isFrame (by decide +kernel) ⟨Nat.le_of_ble_eq_true rfl, Nat.le_of_ble_eq_true rfl⟩ rfl rfl (Nat.le_of_ble_eq_true rfl) dX2_about_1 (fun r_1 σ_1 hc_1 => ?_)
  refine r_if_ne X (tgt := 10) dX2_about_4 (by decide) (fun _ => ?_) (fun _ => ?_)
  · refine r_bipush X (v := (-2)) dX2_about_7 (by decide) ?_
    exact r_ireturn X dX2_about_9
  · refine r_iload_n X (j := 2) dX2_about_10 rfl rfl ?_
    refine r_ite (fun hs0 => ?_) (fun hs0 => ?_)
    · refine r_look X (off := 25) (tgt := 36) dX2_about_11 (by decide) (by rw [hs0]; decide) (by decide) ?_
      refine r_aload_n X (j := 0) dX2_about_36 rfl rfl ?_
      refine r_iload_n X (j := 1) dX2_about_37 rfl rfl ?_
      refine r_callVi X (q0 := 0) (ci := 2) (n := 1) (As := [.int x1]) (st := []) (c_X2_kindOf l D cI cZ α A hJ x1 σ_1) ml_X2_139 im_X2_kindOf se_X2_kindOf ii_X2 co_X2_kindOf (by decide +kernel) ⟨Nat.le_of_ble_eq_true rfl, Nat.le_of_ble_eq_true rfl⟩ rfl rfl rfl rfl (Nat.le_of_ble_eq_true rfl) dX2_about_38 (fun r_38 σ_38 hc_38 => ?_)
      exact r_ireturn X dX2_about_41
    · refine r_ite (fun hs1 => ?_) (fun hs1 => ?_)
      · refine r_look X (off := 31) (tgt := 42) dX2_about_11 (by decide) (by rw [hs1]; decide) (by decide) ?_
        refine r_aload_n X (j := 0) dX2_about_42 rfl rfl ?_
        refine r_get X (ci := 2) (q0 := 0) (v := .ref (α 2)) inX2 rfl rfl 1 (by decide) rfl fl_X2_21 dX2_about_43 ?_
        refine r_iload_n X (j := 1) dX2_about_46 rfl rfl ?_
        refine r_callVi X (q0 := 2) (ci := 1) (n := 1) (As := [.int x1]) (st := []) (c_X1r_countIn l D cI cZ α A hJ x1 σ_1) ml_X2_142 im_X1_countIn se_X1_countIn ii_X1 co_X1_countIn (by decide +kernel) ⟨Nat.le_of_ble_eq_true rfl, Nat.le_of_ble_eq_true rfl⟩ rfl rfl rfl rfl (Nat.le_of_ble_eq_true rfl) dX2_about_47 (fun r_47 σ_47 hc_47 => ?_)
        refine r_aload_n X (j := 0) dX2_about_50 rfl rfl ?_
        refine r_get X (ci := 2) (q0 := 0) (v := .ref (α 3)) inX2 rfl rfl 2 (by decide) rfl fl_X2_25 dX2_about_51 ?_
        refine r_iload_n X (j := 1) dX2_about_54 rfl rfl ?_
        refine r_callVi X (q0 := 3) (ci := 1) (n := 1) (As := [.int x1]) (st := [.int r_47]) (c_X1t_countIn l D cI cZ α A hJ x1 σ_47) ml_X2_142 im_X1_countIn se_X1_countIn ii_X1 co_X1_countIn (by decide +kernel) ⟨Nat.le_of_ble_eq_true rfl, Nat.le_of_ble_eq_true rfl⟩ rfl rfl rfl rfl (Nat.le_of_ble_eq_true rfl) dX2_about_55 (fun r_55 σ_55 hc_55 => ?_)
        refine r_iadd X dX2_about_58 ?_
        refine r_aload_n X (j := 0) dX2_about_59 rfl rfl ?_
        refine r_get X (ci := 2) (q0 := 0) (v := .ref (α 9)) inX2 rfl rfl 4 (by decide) rfl fl_X2_32 dX2_about_60 ?_
        refine r_iload_n X (j := 1) dX2_about_63 rfl rfl ?_
        refine r_iald X (q0 := 9) (t0 := 0) (kk := 9) rfl rfl dX2_about_64 ?_
        refine r_iadd X dX2_about_65 ?_
        exact r_ireturn X dX2_about_66
      · refine r_look X (off := 56) (tgt := 67) dX2_about_11 (by decide) (by show Op.lookupswitch.offset [(0, 25), (1, 31)] _ _ = _; rw [lv_osw hs0 (by decide), lv_osw hs1 (by decide)]; rfl) (by decide) ?_
        refine r_bipush X (v := (-2)) dX2_about_67 (by decide) ?_
        exact r_ireturn X dX2_about_69
set_option maxRecDepth 100000 in
set_option maxHeartbeats 4000000 in
theorem c_X2_dropPageFrame (l : Launch) (D : va_G) (cI cZ : ClassId) (α : Nat → Nat) (A : Nat → Prop) (hJ : ∀ σ, va_D A ((kwX cI α) σ)) (x1 : Int32) (σ : KS) : Ct l D (tyA cI cZ) (kwX cI α) A yX2_dropPageFrame cX2_dropPageFrame 2 none 3 vV [.ref (α 0), .int x1] σ (m_X2_dropPageFrame x1 σ) := by
  refine Ct.of (own := RX2) hJ (by decide) rfl (Nat.le_of_ble_eq_true rfl) ?_
  intro p e s m args below meth c X
  refine r_sub (lv' := [(0, .ref (α 0)), (1, .int x1)]) [0, 1] rfl ?_
  unfold m_X2_dropPageFrame
  refine r_iload_n X (j := 1) dX2_dropPageFrame_0 rfl rfl ?_
  refine r_callSi X (n := 1) (As := [.int x1]) (st := []) (c_X2_isFrame l D cI cZ α A hJ x1 σ) ml_X2_124 sm_X2_isFrame ii_X2 co_X2_isFrame (by decide +kernel) ⟨Nat.le_of_ble_eq_true rfl, Nat.le_of_ble_eq_true rfl⟩ rfl rfl (Nat.le_of_ble_eq_true rfl) dX2_dropPageFrame_1 (fun r_1 σ_1 hc_1 => ?_)
  refine r_if_ne X (tgt := 8) dX2_dropPageFrame_4 (by decide) (fun _ => ?_) (fun _ => ?_)
  · exact r_return X dX2_dropPageFrame_7
  · refine r_aload_n X (j := 0) dX2_dropPageFrame_8 rfl rfl ?_
    refine r_get X (ci := 2) (q0 := 0) (v := .ref (α 9)) inX2 rfl rfl 4 (by decide) rfl fl_X2_32 dX2_dropPageFrame_9 ?_
    refine r_iload_n X (j := 1) dX2_dropPageFrame_12 rfl rfl ?_
    refine r_dup2 X dX2_dropPageFrame_13 rfl rfl ?_
    refine r_iald X (q0 := 9) (t0 := 0) (kk := 9) rfl rfl dX2_dropPageFrame_14 ?_
    refine r_iconst X (v := 1) dX2_dropPageFrame_15 (by decide) ?_
    refine r_isub X dX2_dropPageFrame_16 ?_
    refine r_iast X (q0 := 9) (t0 := 0) (kk := 9) rfl (fun _ => rfl) rfl dX2_dropPageFrame_17 ?_
    refine r_aload_n X (j := 0) dX2_dropPageFrame_18 rfl rfl ?_
    refine r_get X (ci := 2) (q0 := 0) (v := .ref (α 9)) inX2 rfl rfl 4 (by decide) rfl fl_X2_32 dX2_dropPageFrame_19 ?_
    refine r_iload_n X (j := 1) dX2_dropPageFrame_22 rfl rfl ?_
    refine r_iald X (q0 := 9) (t0 := 0) (kk := 9) rfl rfl dX2_dropPageFrame_23 ?_
    refine r_if_ne X (tgt := 36) dX2_dropPageFrame_24 (by decide) (fun _ => ?_) (fun _ => ?_)
    · refine r_aload_n X (j := 0) dX2_dropPageFrame_27 rfl rfl ?_
      refine r_get X (ci := 2) (q0 := 0) (v := .ref (α 1)) inX2 rfl rfl 0 (by decide) rfl fl_X2_10 dX2_dropPageFrame_28 ?_
      refine r_iload_n X (j := 1) dX2_dropPageFrame_31 rfl rfl ?_
      refine r_iconst X (v := 0) dX2_dropPageFrame_32 (by decide) ?_
      refine r_callVv X (q0 := 1) (ci := 0) (n := 2) (As := [.int x1, .int 0]) (st := []) (c_X0_giveBlock l D cI cZ α A hJ x1 0 (wr σ_1 9 x1 ((rd σ_1 9 x1) - 1))) ml_X2_127 im_X0_giveBlock se_X0_giveBlock ii_X0 co_X0_giveBlock (by decide +kernel) ⟨Nat.le_of_ble_eq_true rfl, Nat.le_of_ble_eq_true rfl⟩ rfl rfl rfl rfl (Nat.le_of_ble_eq_true rfl) dX2_dropPageFrame_33 (fun r_33 σ_33 hc_33 => ?_)
      exact r_return X dX2_dropPageFrame_36
    · exact r_return X dX2_dropPageFrame_36
set_option maxRecDepth 100000 in
set_option maxHeartbeats 4000000 in
theorem c_X2_frameOfPage (l : Launch) (D : va_G) (cI cZ : ClassId) (α : Nat → Nat) (A : Nat → Prop) (hJ : ∀ σ, va_D A ((kwX cI α) σ)) (x1 x2 : Int32) (σ : KS) : Ct l D (tyA cI cZ) (kwX cI α) A yX2_frameOfPage cX2_frameOfPage 3 (some .int) 3 vI [.ref (α 0), .int x1, .int x2] σ (m_X2_frameOfPage x1 x2 σ) := by
  refine Ct.of (own := RX2) hJ (by decide) rfl (Nat.le_of_ble_eq_true rfl) ?_
  intro p e s m args below meth c X
  refine r_sub (lv' := [(0, .ref (α 0)), (1, .int x1), (2, .int x2)]) [0, 1, 2] rfl ?_
  unfold m_X2_frameOfPage
  refine r_aload_n X (j := 0) dX2_frameOfPage_0 rfl rfl ?_
  refine r_iload_n X (j := 1) dX2_frameOfPage_1 rfl rfl ?_
  refine r_iload_n X (j := 2) dX2_frameOfPage_2 rfl rfl ?_
  refine r_callVi X (q0 := 0) (ci := 2) (n := 2) (As := [.int x1, .int x2]) (st := []) (c_X2_hasPage l D cI cZ α A hJ x1 x2 σ) ml_X2_79 im_X2_hasPage se_X2_hasPage ii_X2 co_X2_hasPage (by decide +kernel) ⟨Nat.le_of_ble_eq_true rfl, Nat.le_of_ble_eq_true rfl⟩ rfl rfl rfl rfl (Nat.le_of_ble_eq_true rfl) dX2_frameOfPage_3 (fun r_3 σ_3 hc_3 => ?_)
  refine r_if_eq X (tgt := 22) dX2_frameOfPage_6 (by decide) (fun _ => ?_) (fun _ => ?_)
  · refine r_iconst X (v := (-1)) dX2_frameOfPage_22 (by decide) ?_
    exact r_ireturn X dX2_frameOfPage_23
  · refine r_aload_n X (j := 0) dX2_frameOfPage_9 rfl rfl ?_
    refine r_aload_n X (j := 0) dX2_frameOfPage_10 rfl rfl ?_
    refine r_iload_n X (j := 1) dX2_frameOfPage_11 rfl rfl ?_
    refine r_iload_n X (j := 2) dX2_frameOfPage_12 rfl rfl ?_
    refine r_callVi X (q0 := 0) (ci := 2) (n := 2) (As := [.int x1, .int x2]) (st := [.ref (α 0)]) (c_X2_pageIndex l D cI cZ α A hJ x1 x2 σ_3) ml_X2_181 im_X2_pageIndex se_X2_pageIndex ii_X2 co_X2_pageIndex (by decide +kernel) ⟨Nat.le_of_ble_eq_true rfl, Nat.le_of_ble_eq_true rfl⟩ rfl rfl rfl rfl (Nat.le_of_ble_eq_true rfl) dX2_frameOfPage_13 (fun r_13 σ_13 hc_13 => ?_)
    refine r_callVi X (q0 := 0) (ci := 2) (n := 1) (As := [.int r_13]) (st := []) (c_X2_wordAt l D cI cZ α A hJ r_13 σ_13) ml_X2_86 im_X2_wordAt se_X2_wordAt ii_X2 co_X2_wordAt (by decide +kernel) ⟨Nat.le_of_ble_eq_true rfl, Nat.le_of_ble_eq_true rfl⟩ rfl rfl rfl rfl (Nat.le_of_ble_eq_true rfl) dX2_frameOfPage_16 (fun r_16 σ_16 hc_16 => ?_)
    refine r_goto X (tgt := 23) dX2_frameOfPage_19 (by decide) ?_
    exact r_ireturn X dX2_frameOfPage_23
set_option maxRecDepth 100000 in
set_option maxHeartbeats 4000000 in
theorem c_X2_free (l : Launch) (D : va_G) (cI cZ : ClassId) (α : Nat → Nat) (A : Nat → Prop) (hJ : ∀ σ, va_D A ((kwX cI α) σ)) (x1 x2 : Int32) (σ : KS) : Ct l D (tyA cI cZ) (kwX cI α) A yX2_free cX2_free 3 (some .int) 3 vI [.ref (α 0), .int x1, .int x2] σ (m_X2_free x1 x2 σ) := by
  refine Ct.of (own := RX2) hJ (by decide) rfl (Nat.le_of_ble_eq_true rfl) ?_
  intro p e s m args below meth c X
  refine r_sub (lv' := [(0, .ref (α 0)), (1, .int x1), (2, .int x2)]) [0, 1, 2] rfl ?_
  unfold m_X2_free
  refine r_iload_n X (j := 1) dX2_free_0 rfl rfl ?_
  refine r_callSi X (n := 1) (As := [.int x1]) (st := []) (c_X2_isOrder l D cI cZ α A hJ x1 σ) ml_X2_118 sm_X2_isOrder ii_X2 co_X2_isOrder (by decide +kernel) ⟨Nat.le_of_ble_eq_true rfl, Nat.le_of_ble_eq_true rfl⟩ rfl rfl (Nat.le_of_ble_eq_true rfl) dX2_free_1 (fun r_1 σ_1 hc_1 => ?_)
  refine r_if_ne X (tgt := 10) dX2_free_4 (by decide) (fun _ => ?_) (fun _ => ?_)
  · refine r_bipush X (v := (-2)) dX2_free_7 (by decide) ?_
    exact r_ireturn X dX2_free_9
  · refine r_iload_n X (j := 2) dX2_free_10 rfl rfl ?_
    refine r_ite (fun hs0 => ?_) (fun hs0 => ?_)
    · refine r_look X (off := 25) (tgt := 36) dX2_free_11 (by decide) (by rw [hs0]; decide) (by decide) ?_
      refine r_aload_n X (j := 0) dX2_free_36 rfl rfl ?_
      refine r_get X (ci := 2) (q0 := 0) (v := .ref (α 1)) inX2 rfl rfl 0 (by decide) rfl fl_X2_10 dX2_free_37 ?_
      refine r_iload_n X (j := 1) dX2_free_40 rfl rfl ?_
      refine r_callVi X (q0 := 1) (ci := 0) (n := 1) (As := [.int x1]) (st := []) (c_X0_countOf l D cI cZ α A hJ x1 σ_1) ml_X2_130 im_X0_countOf se_X0_countOf ii_X0 co_X0_countOf (by decide +kernel) ⟨Nat.le_of_ble_eq_true rfl, Nat.le_of_ble_eq_true rfl⟩ rfl rfl rfl rfl (Nat.le_of_ble_eq_true rfl) dX2_free_41 (fun r_41 σ_41 hc_41 => ?_)
      exact r_ireturn X dX2_free_44
    · refine r_ite (fun hs1 => ?_) (fun hs1 => ?_)
      · refine r_look X (off := 34) (tgt := 45) dX2_free_11 (by decide) (by rw [hs1]; decide) (by decide) ?_
        refine r_aload_n X (j := 0) dX2_free_45 rfl rfl ?_
        refine r_get X (ci := 2) (q0 := 0) (v := .ref (α 1)) inX2 rfl rfl 0 (by decide) rfl fl_X2_10 dX2_free_46 ?_
        refine r_iload_n X (j := 1) dX2_free_49 rfl rfl ?_
        refine r_callVi X (q0 := 1) (ci := 0) (n := 1) (As := [.int x1]) (st := []) (c_X0_leastOf l D cI cZ α A hJ x1 σ_1) ml_X2_133 im_X0_leastOf se_X0_leastOf ii_X0 co_X0_leastOf (by decide +kernel) ⟨Nat.le_of_ble_eq_true rfl, Nat.le_of_ble_eq_true rfl⟩ rfl rfl rfl rfl (Nat.le_of_ble_eq_true rfl) dX2_free_50 (fun r_50 σ_50 hc_50 => ?_)
        exact r_ireturn X dX2_free_53
      · refine r_look X (off := 43) (tgt := 54) dX2_free_11 (by decide) (by show Op.lookupswitch.offset [(0, 25), (1, 34)] _ _ = _; rw [lv_osw hs0 (by decide), lv_osw hs1 (by decide)]; rfl) (by decide) ?_
        refine r_bipush X (v := (-2)) dX2_free_54 (by decide) ?_
        exact r_ireturn X dX2_free_56
set_option maxRecDepth 100000 in
set_option maxHeartbeats 4000000 in
theorem c_X2_has (l : Launch) (D : va_G) (cI cZ : ClassId) (α : Nat → Nat) (A : Nat → Prop) (hJ : ∀ σ, va_D A ((kwX cI α) σ)) (x1 x2 : Int32) (σ : KS) : Ct l D (tyA cI cZ) (kwX cI α) A yX2_has cX2_has 3 (some .boolean) 3 vI [.ref (α 0), .int x1, .int x2] σ (m_X2_has x1 x2 σ) := by
  refine Ct.of (own := RX2) hJ (by decide) rfl (Nat.le_of_ble_eq_true rfl) ?_
  intro p e s m args below meth c X
  refine r_sub (lv' := [(0, .ref (α 0)), (1, .int x1), (2, .int x2)]) [0, 1, 2] rfl ?_
  unfold m_X2_has
  refine r_aload_n X (j := 0) dX2_has_0 rfl rfl ?_
  refine r_iload_n X (j := 1) dX2_has_1 rfl rfl ?_
  refine r_iload_n X (j := 2) dX2_has_2 rfl rfl ?_
  refine r_callSi X (n := 1) (As := [.int x2]) (st := [.int x1, .ref (α 0)]) (c_X2_pageOf l D cI cZ α A hJ x2 σ) ml_X2_76 sm_X2_pageOf ii_X2 co_X2_pageOf (by decide +kernel) ⟨Nat.le_of_ble_eq_true rfl, Nat.le_of_ble_eq_true rfl⟩ rfl rfl (Nat.le_of_ble_eq_true rfl) dX2_has_3 (fun r_3 σ_3 hc_3 => ?_)
  refine r_callVi X (q0 := 0) (ci := 2) (n := 2) (As := [.int x1, .int r_3]) (st := []) (c_X2_hasPage l D cI cZ α A hJ x1 r_3 σ_3) ml_X2_79 im_X2_hasPage se_X2_hasPage ii_X2 co_X2_hasPage (by decide +kernel) ⟨Nat.le_of_ble_eq_true rfl, Nat.le_of_ble_eq_true rfl⟩ rfl rfl rfl rfl (Nat.le_of_ble_eq_true rfl) dX2_has_6 (fun r_6 σ_6 hc_6 => ?_)
  exact r_zreturnC X dX2_has_9
end
section
set_option maxRecDepth 100000 in
set_option maxHeartbeats 4000000 in
theorem c_X2_unblock (l : Launch) (D : va_G) (cI cZ : ClassId) (α : Nat → Nat) (A : Nat → Prop) (hJ : ∀ σ, va_D A ((kwX cI α) σ)) (x1 : Int32) (σ : KS) : Ct l D (tyA cI cZ) (kwX cI α) A yX2_unblock cX2_unblock 3 (some .int) 3 vI [.ref (α 0), .int x1] σ (m_X2_unblock x1 σ) := by
  refine Ct.of (own := RX2) hJ (by decide) rfl (Nat.le_of_ble_eq_true rfl) ?_
  intro p e s m args below meth c X
  refine r_sub (lv' := [(0, .ref (α 0)), (1, .int x1)]) [0, 1] rfl ?_
  unfold m_X2_unblock
  refine r_iload_n X (j := 1) dX2_unblock_0 rfl rfl ?_
  refine r_callSi X (n := 1) (As := [.int x1]) (st := []) (c_X2_isFrame l D cI cZ α A hJ x1 σ) ml_X2_124 sm_X2_isFrame ii_X2 co_X2_isFrame (by decide +kernel) ⟨Nat.le_of_ble_eq_true rfl, Nat.le_of_ble_eq_true rfl⟩ rfl rfl (Nat.le_of_ble_eq_true rfl) dX2_unblock_1 (fun r_1 σ_1 hc_1 => ?_)
  refine r_if_eq X (tgt := 17) dX2_unblock_4 (by decide) (fun _ => ?_) (fun _ => ?_)
  · refine r_bipush X (v := (-2)) dX2_unblock_17 (by decide) ?_
    exact r_ireturn X dX2_unblock_19
  · refine r_aload_n X (j := 0) dX2_unblock_7 rfl rfl ?_
    refine r_get X (ci := 2) (q0 := 0) (v := .ref (α 10)) inX2 rfl rfl 5 (by decide) rfl fl_X2_35 dX2_unblock_8 ?_
    refine r_iload_n X (j := 1) dX2_unblock_11 rfl rfl ?_
    refine r_iald X (q0 := 10) (t0 := 0) (kk := 10) rfl rfl dX2_unblock_12 ?_
    refine r_iconst X (v := (-1)) dX2_unblock_13 (by decide) ?_
    refine r_icmp_ne X (tgt := 20) dX2_unblock_14 (by decide) (fun _ => ?_) (fun _ => ?_)
    · refine r_bipush X (v := (-2)) dX2_unblock_17 (by decide) ?_
      exact r_ireturn X dX2_unblock_19
    · refine r_aload_n X (j := 0) dX2_unblock_20 rfl rfl ?_
      refine r_get X (ci := 2) (q0 := 0) (v := .ref (α 10)) inX2 rfl rfl 5 (by decide) rfl fl_X2_35 dX2_unblock_21 ?_
      refine r_iload_n X (j := 1) dX2_unblock_24 rfl rfl ?_
      refine r_iald X (q0 := 10) (t0 := 0) (kk := 10) rfl rfl dX2_unblock_25 ?_
      refine r_istore_n X (lv' := [(2, .int (rd σ_1 10 x1)), (0, .ref (α 0)), (1, .int x1)]) dX2_unblock_26 rfl (by decide) rfl ?_
      refine r_aload_n X (j := 1) dX2_unblock_27 rfl rfl ?_
      refine r_get X (ci := 2) (q0 := 0) (v := .ref (α 10)) inX2 rfl rfl 5 (by decide) rfl fl_X2_35 dX2_unblock_28 ?_
      refine r_iload_n X (j := 2) dX2_unblock_31 rfl rfl ?_
      refine r_iconst X (v := (-1)) dX2_unblock_32 (by decide) ?_
      refine r_iast X (q0 := 10) (t0 := 0) (kk := 10) rfl (fun _ => rfl) rfl dX2_unblock_33 ?_
      refine r_aload_n X (j := 1) dX2_unblock_34 rfl rfl ?_
      refine r_get X (ci := 2) (q0 := 0) (v := .ref (α 1)) inX2 rfl rfl 0 (by decide) rfl fl_X2_10 dX2_unblock_35 ?_
      refine r_iload_n X (j := 2) dX2_unblock_38 rfl rfl ?_
      refine r_iload_n X (j := 0) dX2_unblock_39 rfl rfl ?_
      refine r_callVv X (q0 := 1) (ci := 0) (n := 2) (As := [.int x1, .int (rd σ_1 10 x1)]) (st := []) (c_X0_giveBlock l D cI cZ α A hJ x1 (rd σ_1 10 x1) (wr σ_1 10 x1 (-1))) ml_X2_127 im_X0_giveBlock se_X0_giveBlock ii_X0 co_X0_giveBlock (by decide +kernel) ⟨Nat.le_of_ble_eq_true rfl, Nat.le_of_ble_eq_true rfl⟩ rfl rfl rfl rfl (Nat.le_of_ble_eq_true rfl) dX2_unblock_40 (fun r_40 σ_40 hc_40 => ?_)
      refine r_iload_n X (j := 0) dX2_unblock_43 rfl rfl ?_
      exact r_ireturn X dX2_unblock_44
set_option maxRecDepth 100000 in
set_option maxHeartbeats 4000000 in
theorem cl_X1r_takePlace_30 (l : Launch) (D : va_G) (cI cZ : ClassId) (α : Nat → Nat) (A : Nat → Prop) (hJ : ∀ σ, va_D A ((kwX cI α) σ)) {p : Program} {e : Env} {s : State} {m : MethodId} {args : Array Value} {below : List Frame} {meth : Method} {c : Code} (X : CX p s m args meth c cX1_takePlace 3 RX1 D (tyA cI cZ) (kwX cI α) A (some .int)) : ∀ (n : Nat) (x1 : Int32) (x2 : Int32) (σ : KS), Cr p l e (rmd 4) s m args below meth c 3 D (kwX cI α) A vI 30 [(0, .ref (α 2)), (1, .int x1), (2, .int x2)] [] σ (f_X1r_takePlace_30 n x1 x2 σ) := by
  intro n
  induction n with
  | zero => intros; exact r_none
  | succ n ih =>
    intro x1 x2 σ
    rw [f_X1r_takePlace_30]
    refine r_iload_n X (j := 2) dX1_takePlace_30 rfl rfl ?_
    refine r_iconst X (v := 4) dX1_takePlace_31 (by decide) ?_
    refine r_icmp_ge X (tgt := 72) dX1_takePlace_32 (by decide) (fun _ => ?_) (fun _ => ?_)
    · refine r_iconst X (v := (-1)) dX1_takePlace_72 (by decide) ?_
      exact r_ireturn X dX1_takePlace_73
    · refine r_aload_n X (j := 0) dX1_takePlace_35 rfl rfl ?_
      refine r_get X (ci := 1) (q0 := 2) (v := .ref (α 6)) inX1 rfl rfl 1 (by decide) rfl fl_X1_15 dX1_takePlace_36 ?_
      refine r_iload_n X (j := 1) dX1_takePlace_39 rfl rfl ?_
      refine r_iald X (q0 := 6) (t0 := 0) (kk := 6) rfl rfl dX1_takePlace_40 ?_
      refine r_iconst X (v := 1) dX1_takePlace_41 (by decide) ?_
      refine r_iload_n X (j := 2) dX1_takePlace_42 rfl rfl ?_
      refine r_ishl X dX1_takePlace_43 ?_
      refine r_iand X dX1_takePlace_44 ?_
      refine r_if_ne X (tgt := 66) dX1_takePlace_45 (by decide) (fun _ => ?_) (fun _ => ?_)
      · refine r_aload_n X (j := 0) dX1_takePlace_48 rfl rfl ?_
        refine r_get X (ci := 1) (q0 := 2) (v := .ref (α 6)) inX1 rfl rfl 1 (by decide) rfl fl_X1_15 dX1_takePlace_49 ?_
        refine r_iload_n X (j := 1) dX1_takePlace_52 rfl rfl ?_
        refine r_dup2 X dX1_takePlace_53 rfl rfl ?_
        refine r_iald X (q0 := 6) (t0 := 0) (kk := 6) rfl rfl dX1_takePlace_54 ?_
        refine r_iconst X (v := 1) dX1_takePlace_55 (by decide) ?_
        refine r_iload_n X (j := 2) dX1_takePlace_56 rfl rfl ?_
        refine r_ishl X dX1_takePlace_57 ?_
        refine r_ior X dX1_takePlace_58 ?_
        refine r_iast X (q0 := 6) (t0 := 0) (kk := 6) rfl (fun _ => rfl) rfl dX1_takePlace_59 ?_
        refine r_iload_n X (j := 1) dX1_takePlace_60 rfl rfl ?_
        refine r_iconst X (v := 4) dX1_takePlace_61 (by decide) ?_
        refine r_imul X dX1_takePlace_62 ?_
        refine r_iload_n X (j := 2) dX1_takePlace_63 rfl rfl ?_
        refine r_iadd X dX1_takePlace_64 ?_
        exact r_ireturn X dX1_takePlace_65
      · refine r_iinc X (j := 2) (v := (x2 + 1)) (lv' := [(2, .int (x2 + 1)), (0, .ref (α 2)), (1, .int x1)]) dX1_takePlace_66 rfl rfl (by decide) rfl ?_
        refine r_goto X (tgt := 30) dX1_takePlace_69 (by decide) ?_
        refine r_sub (lv' := [(0, .ref (α 2)), (1, .int x1), (2, .int (x2 + 1))]) [1, 2, 0] rfl ?_
        exact ih x1 (x2 + 1) σ
set_option maxRecDepth 100000 in
set_option maxHeartbeats 4000000 in
theorem c_X1r_takePlace (l : Launch) (D : va_G) (cI cZ : ClassId) (α : Nat → Nat) (A : Nat → Prop) (hJ : ∀ σ, va_D A ((kwX cI α) σ)) (σ : KS) : Ct l D (tyA cI cZ) (kwX cI α) A yX1_takePlace cX1_takePlace 3 (some .int) 4 vI [.ref (α 2)] σ (m_X1r_takePlace σ) := by
  refine Ct.of (own := RX1) hJ (by decide) rfl (Nat.le_of_ble_eq_true rfl) ?_
  intro p e s m args below meth c X
  refine r_sub (lv' := [(0, .ref (α 2))]) [0] rfl ?_
  unfold m_X1r_takePlace
  refine r_aload_n X (j := 0) dX1_takePlace_0 rfl rfl ?_
  refine r_callVi X (q0 := 2) (ci := 1) (n := 0) (As := []) (st := []) (c_X1r_leastWithRoom l D cI cZ α A hJ σ) ml_X1_29 im_X1_leastWithRoom se_X1_leastWithRoom ii_X1 co_X1_leastWithRoom (by decide +kernel) ⟨Nat.le_of_ble_eq_true rfl, Nat.le_of_ble_eq_true rfl⟩ rfl rfl rfl rfl (Nat.le_of_ble_eq_true rfl) dX1_takePlace_1 (fun r_1 σ_1 hc_1 => ?_)
  refine r_istore_n X (lv' := [(1, .int r_1), (0, .ref (α 2))]) dX1_takePlace_4 rfl (by decide) rfl ?_
  refine r_iload_n X (j := 0) dX1_takePlace_5 rfl rfl ?_
  refine r_iconst X (v := (-1)) dX1_takePlace_6 (by decide) ?_
  refine r_icmp_ne X (tgt := 19) dX1_takePlace_7 (by decide) (fun _ => ?_) (fun _ => ?_)
  · refine r_aload_n X (j := 1) dX1_takePlace_10 rfl rfl ?_
    refine r_get X (ci := 1) (q0 := 2) (v := .ref (α 1)) inX1 rfl rfl 0 (by decide) rfl fl_X1_9 dX1_takePlace_11 ?_
    refine r_iconst X (v := 0) dX1_takePlace_14 (by decide) ?_
    refine r_callVi X (q0 := 1) (ci := 0) (n := 1) (As := [.int 0]) (st := []) (c_X0_takeBlock l D cI cZ α A hJ 0 σ_1) ml_X1_33 im_X0_takeBlock se_X0_takeBlock ii_X0 co_X0_takeBlock (by decide +kernel) ⟨Nat.le_of_ble_eq_true rfl, Nat.le_of_ble_eq_true rfl⟩ rfl rfl rfl rfl (Nat.le_of_ble_eq_true rfl) dX1_takePlace_15 (fun r_15 σ_15 hc_15 => ?_)
    refine r_istore_n X (lv' := [(1, .int r_15), (0, .ref (α 2))]) dX1_takePlace_18 rfl (by decide) rfl ?_
    refine r_iload_n X (j := 0) dX1_takePlace_19 rfl rfl ?_
    refine r_callNi X (n := 1) (As := [.int r_15]) (st := []) (c_X2_isFrame l D cI cZ α A hJ r_15 σ_15) X.2.2.1.2.2 sm_X2_isFrame ii_X2 co_X2_isFrame (by decide +kernel) ⟨Nat.le_of_ble_eq_true rfl, Nat.le_of_ble_eq_true rfl⟩ rfl rfl (Nat.le_of_ble_eq_true rfl) dX1_takePlace_20 (fun r_20 σ_20 hc_20 => ?_)
    refine r_if_ne X (tgt := 28) dX1_takePlace_23 (by decide) (fun _ => ?_) (fun _ => ?_)
    · refine r_iconst X (v := (-1)) dX1_takePlace_26 (by decide) ?_
      exact r_ireturn X dX1_takePlace_27
    · refine r_iconst X (v := 0) dX1_takePlace_28 (by decide) ?_
      refine r_istore_n X (lv' := [(2, .int 0), (1, .int r_15), (0, .ref (α 2))]) dX1_takePlace_29 rfl (by decide) rfl ?_
      refine r_sub (lv' := [(0, .ref (α 2)), (1, .int r_15), (2, .int 0)]) [2, 1, 0] rfl ?_
      exact cl_X1r_takePlace_30 l D cI cZ α A hJ X FU r_15 0 σ_20
  · refine r_iload_n X (j := 0) dX1_takePlace_19 rfl rfl ?_
    refine r_callNi X (n := 1) (As := [.int r_1]) (st := []) (c_X2_isFrame l D cI cZ α A hJ r_1 σ_1) X.2.2.1.2.2 sm_X2_isFrame ii_X2 co_X2_isFrame (by decide +kernel) ⟨Nat.le_of_ble_eq_true rfl, Nat.le_of_ble_eq_true rfl⟩ rfl rfl (Nat.le_of_ble_eq_true rfl) dX1_takePlace_20 (fun r_20 σ_20 hc_20 => ?_)
    refine r_if_ne X (tgt := 28) dX1_takePlace_23 (by decide) (fun _ => ?_) (fun _ => ?_)
    · refine r_iconst X (v := (-1)) dX1_takePlace_26 (by decide) ?_
      exact r_ireturn X dX1_takePlace_27
    · refine r_iconst X (v := 0) dX1_takePlace_28 (by decide) ?_
      refine r_istore_n X (lv' := [(2, .int 0), (1, .int r_1), (0, .ref (α 2))]) dX1_takePlace_29 rfl (by decide) rfl ?_
      refine r_sub (lv' := [(0, .ref (α 2)), (1, .int r_1), (2, .int 0)]) [2, 1, 0] rfl ?_
      exact cl_X1r_takePlace_30 l D cI cZ α A hJ X FU r_1 0 σ_20
set_option maxRecDepth 100000 in
set_option maxHeartbeats 4000000 in
theorem cl_X1t_takePlace_30 (l : Launch) (D : va_G) (cI cZ : ClassId) (α : Nat → Nat) (A : Nat → Prop) (hJ : ∀ σ, va_D A ((kwX cI α) σ)) {p : Program} {e : Env} {s : State} {m : MethodId} {args : Array Value} {below : List Frame} {meth : Method} {c : Code} (X : CX p s m args meth c cX1_takePlace 3 RX1 D (tyA cI cZ) (kwX cI α) A (some .int)) : ∀ (n : Nat) (x1 : Int32) (x2 : Int32) (σ : KS), Cr p l e (rmd 4) s m args below meth c 3 D (kwX cI α) A vI 30 [(0, .ref (α 3)), (1, .int x1), (2, .int x2)] [] σ (f_X1t_takePlace_30 n x1 x2 σ) := by
  intro n
  induction n with
  | zero => intros; exact r_none
  | succ n ih =>
    intro x1 x2 σ
    rw [f_X1t_takePlace_30]
    refine r_iload_n X (j := 2) dX1_takePlace_30 rfl rfl ?_
    refine r_iconst X (v := 4) dX1_takePlace_31 (by decide) ?_
    refine r_icmp_ge X (tgt := 72) dX1_takePlace_32 (by decide) (fun _ => ?_) (fun _ => ?_)
    · refine r_iconst X (v := (-1)) dX1_takePlace_72 (by decide) ?_
      exact r_ireturn X dX1_takePlace_73
    · refine r_aload_n X (j := 0) dX1_takePlace_35 rfl rfl ?_
      refine r_get X (ci := 1) (q0 := 3) (v := .ref (α 7)) inX1 rfl rfl 1 (by decide) rfl fl_X1_15 dX1_takePlace_36 ?_
      refine r_iload_n X (j := 1) dX1_takePlace_39 rfl rfl ?_
      refine r_iald X (q0 := 7) (t0 := 0) (kk := 7) rfl rfl dX1_takePlace_40 ?_
      refine r_iconst X (v := 1) dX1_takePlace_41 (by decide) ?_
      refine r_iload_n X (j := 2) dX1_takePlace_42 rfl rfl ?_
      refine r_ishl X dX1_takePlace_43 ?_
      refine r_iand X dX1_takePlace_44 ?_
      refine r_if_ne X (tgt := 66) dX1_takePlace_45 (by decide) (fun _ => ?_) (fun _ => ?_)
      · refine r_aload_n X (j := 0) dX1_takePlace_48 rfl rfl ?_
        refine r_get X (ci := 1) (q0 := 3) (v := .ref (α 7)) inX1 rfl rfl 1 (by decide) rfl fl_X1_15 dX1_takePlace_49 ?_
        refine r_iload_n X (j := 1) dX1_takePlace_52 rfl rfl ?_
        refine r_dup2 X dX1_takePlace_53 rfl rfl ?_
        refine r_iald X (q0 := 7) (t0 := 0) (kk := 7) rfl rfl dX1_takePlace_54 ?_
        refine r_iconst X (v := 1) dX1_takePlace_55 (by decide) ?_
        refine r_iload_n X (j := 2) dX1_takePlace_56 rfl rfl ?_
        refine r_ishl X dX1_takePlace_57 ?_
        refine r_ior X dX1_takePlace_58 ?_
        refine r_iast X (q0 := 7) (t0 := 0) (kk := 7) rfl (fun _ => rfl) rfl dX1_takePlace_59 ?_
        refine r_iload_n X (j := 1) dX1_takePlace_60 rfl rfl ?_
        refine r_iconst X (v := 4) dX1_takePlace_61 (by decide) ?_
        refine r_imul X dX1_takePlace_62 ?_
        refine r_iload_n X (j := 2) dX1_takePlace_63 rfl rfl ?_
        refine r_iadd X dX1_takePlace_64 ?_
        exact r_ireturn X dX1_takePlace_65
      · refine r_iinc X (j := 2) (v := (x2 + 1)) (lv' := [(2, .int (x2 + 1)), (0, .ref (α 3)), (1, .int x1)]) dX1_takePlace_66 rfl rfl (by decide) rfl ?_
        refine r_goto X (tgt := 30) dX1_takePlace_69 (by decide) ?_
        refine r_sub (lv' := [(0, .ref (α 3)), (1, .int x1), (2, .int (x2 + 1))]) [1, 2, 0] rfl ?_
        exact ih x1 (x2 + 1) σ
set_option maxRecDepth 100000 in
set_option maxHeartbeats 4000000 in
theorem c_X1t_takePlace (l : Launch) (D : va_G) (cI cZ : ClassId) (α : Nat → Nat) (A : Nat → Prop) (hJ : ∀ σ, va_D A ((kwX cI α) σ)) (σ : KS) : Ct l D (tyA cI cZ) (kwX cI α) A yX1_takePlace cX1_takePlace 3 (some .int) 4 vI [.ref (α 3)] σ (m_X1t_takePlace σ) := by
  refine Ct.of (own := RX1) hJ (by decide) rfl (Nat.le_of_ble_eq_true rfl) ?_
  intro p e s m args below meth c X
  refine r_sub (lv' := [(0, .ref (α 3))]) [0] rfl ?_
  unfold m_X1t_takePlace
  refine r_aload_n X (j := 0) dX1_takePlace_0 rfl rfl ?_
  refine r_callVi X (q0 := 3) (ci := 1) (n := 0) (As := []) (st := []) (c_X1t_leastWithRoom l D cI cZ α A hJ σ) ml_X1_29 im_X1_leastWithRoom se_X1_leastWithRoom ii_X1 co_X1_leastWithRoom (by decide +kernel) ⟨Nat.le_of_ble_eq_true rfl, Nat.le_of_ble_eq_true rfl⟩ rfl rfl rfl rfl (Nat.le_of_ble_eq_true rfl) dX1_takePlace_1 (fun r_1 σ_1 hc_1 => ?_)
  refine r_istore_n X (lv' := [(1, .int r_1), (0, .ref (α 3))]) dX1_takePlace_4 rfl (by decide) rfl ?_
  refine r_iload_n X (j := 0) dX1_takePlace_5 rfl rfl ?_
  refine r_iconst X (v := (-1)) dX1_takePlace_6 (by decide) ?_
  refine r_icmp_ne X (tgt := 19) dX1_takePlace_7 (by decide) (fun _ => ?_) (fun _ => ?_)
  · refine r_aload_n X (j := 1) dX1_takePlace_10 rfl rfl ?_
    refine r_get X (ci := 1) (q0 := 3) (v := .ref (α 1)) inX1 rfl rfl 0 (by decide) rfl fl_X1_9 dX1_takePlace_11 ?_
    refine r_iconst X (v := 0) dX1_takePlace_14 (by decide) ?_
    refine r_callVi X (q0 := 1) (ci := 0) (n := 1) (As := [.int 0]) (st := []) (c_X0_takeBlock l D cI cZ α A hJ 0 σ_1) ml_X1_33 im_X0_takeBlock se_X0_takeBlock ii_X0 co_X0_takeBlock (by decide +kernel) ⟨Nat.le_of_ble_eq_true rfl, Nat.le_of_ble_eq_true rfl⟩ rfl rfl rfl rfl (Nat.le_of_ble_eq_true rfl) dX1_takePlace_15 (fun r_15 σ_15 hc_15 => ?_)
    refine r_istore_n X (lv' := [(1, .int r_15), (0, .ref (α 3))]) dX1_takePlace_18 rfl (by decide) rfl ?_
    refine r_iload_n X (j := 0) dX1_takePlace_19 rfl rfl ?_
    refine r_callNi X (n := 1) (As := [.int r_15]) (st := []) (c_X2_isFrame l D cI cZ α A hJ r_15 σ_15) X.2.2.1.2.2 sm_X2_isFrame ii_X2 co_X2_isFrame (by decide +kernel) ⟨Nat.le_of_ble_eq_true rfl, Nat.le_of_ble_eq_true rfl⟩ rfl rfl (Nat.le_of_ble_eq_true rfl) dX1_takePlace_20 (fun r_20 σ_20 hc_20 => ?_)
    refine r_if_ne X (tgt := 28) dX1_takePlace_23 (by decide) (fun _ => ?_) (fun _ => ?_)
    · refine r_iconst X (v := (-1)) dX1_takePlace_26 (by decide) ?_
      exact r_ireturn X dX1_takePlace_27
    · refine r_iconst X (v := 0) dX1_takePlace_28 (by decide) ?_
      refine r_istore_n X (lv' := [(2, .int 0), (1, .int r_15), (0, .ref (α 3))]) dX1_takePlace_29 rfl (by decide) rfl ?_
      refine r_sub (lv' := [(0, .ref (α 3)), (1, .int r_15), (2, .int 0)]) [2, 1, 0] rfl ?_
      exact cl_X1t_takePlace_30 l D cI cZ α A hJ X FU r_15 0 σ_20
  · refine r_iload_n X (j := 0) dX1_takePlace_19 rfl rfl ?_
    refine r_callNi X (n := 1) (As := [.int r_1]) (st := []) (c_X2_isFrame l D cI cZ α A hJ r_1 σ_1) X.2.2.1.2.2 sm_X2_isFrame ii_X2 co_X2_isFrame (by decide +kernel) ⟨Nat.le_of_ble_eq_true rfl, Nat.le_of_ble_eq_true rfl⟩ rfl rfl (Nat.le_of_ble_eq_true rfl) dX1_takePlace_20 (fun r_20 σ_20 hc_20 => ?_)
    refine r_if_ne X (tgt := 28) dX1_takePlace_23 (by decide) (fun _ => ?_) (fun _ => ?_)
    · refine r_iconst X (v := (-1)) dX1_takePlace_26 (by decide) ?_
      exact r_ireturn X dX1_takePlace_27
    · refine r_iconst X (v := 0) dX1_takePlace_28 (by decide) ?_
      refine r_istore_n X (lv' := [(2, .int 0), (1, .int r_1), (0, .ref (α 3))]) dX1_takePlace_29 rfl (by decide) rfl ?_
      refine r_sub (lv' := [(0, .ref (α 3)), (1, .int r_1), (2, .int 0)]) [2, 1, 0] rfl ?_
      exact cl_X1t_takePlace_30 l D cI cZ α A hJ X FU r_1 0 σ_20
set_option maxRecDepth 100000 in
set_option maxHeartbeats 4000000 in
theorem c_X2_block (l : Launch) (D : va_G) (cI cZ : ClassId) (α : Nat → Nat) (A : Nat → Prop) (hJ : ∀ σ, va_D A ((kwX cI α) σ)) (x1 : Int32) (σ : KS) : Ct l D (tyA cI cZ) (kwX cI α) A yX2_block cX2_block 3 (some .int) 4 vI [.ref (α 0), .int x1] σ (m_X2_block x1 σ) := by
  refine Ct.of (own := RX2) hJ (by decide) rfl (Nat.le_of_ble_eq_true rfl) ?_
  intro p e s m args below meth c X
  refine r_sub (lv' := [(0, .ref (α 0)), (1, .int x1)]) [0, 1] rfl ?_
  unfold m_X2_block
  refine r_iload_n X (j := 1) dX2_block_0 rfl rfl ?_
  refine r_callSi X (n := 1) (As := [.int x1]) (st := []) (c_X2_isOrder l D cI cZ α A hJ x1 σ) ml_X2_118 sm_X2_isOrder ii_X2 co_X2_isOrder (by decide +kernel) ⟨Nat.le_of_ble_eq_true rfl, Nat.le_of_ble_eq_true rfl⟩ rfl rfl (Nat.le_of_ble_eq_true rfl) dX2_block_1 (fun r_1 σ_1 hc_1 => ?_)
  refine r_if_ne X (tgt := 10) dX2_block_4 (by decide) (fun _ => ?_) (fun _ => ?_)
  · refine r_bipush X (v := (-2)) dX2_block_7 (by decide) ?_
    exact r_ireturn X dX2_block_9
  · refine r_aload_n X (j := 0) dX2_block_10 rfl rfl ?_
    refine r_get X (ci := 2) (q0 := 0) (v := .ref (α 1)) inX2 rfl rfl 0 (by decide) rfl fl_X2_10 dX2_block_11 ?_
    refine r_iload_n X (j := 1) dX2_block_14 rfl rfl ?_
    refine r_callVi X (q0 := 1) (ci := 0) (n := 1) (As := [.int x1]) (st := []) (c_X0_takeBlock l D cI cZ α A hJ x1 σ_1) ml_X2_121 im_X0_takeBlock se_X0_takeBlock ii_X0 co_X0_takeBlock (by decide +kernel) ⟨Nat.le_of_ble_eq_true rfl, Nat.le_of_ble_eq_true rfl⟩ rfl rfl rfl rfl (Nat.le_of_ble_eq_true rfl) dX2_block_15 (fun r_15 σ_15 hc_15 => ?_)
    refine r_istore_n X (lv' := [(2, .int r_15), (0, .ref (α 0)), (1, .int x1)]) dX2_block_18 rfl (by decide) rfl ?_
    refine r_iload_n X (j := 0) dX2_block_19 rfl rfl ?_
    refine r_callSi X (n := 1) (As := [.int r_15]) (st := []) (c_X2_isFrame l D cI cZ α A hJ r_15 σ_15) ml_X2_124 sm_X2_isFrame ii_X2 co_X2_isFrame (by decide +kernel) ⟨Nat.le_of_ble_eq_true rfl, Nat.le_of_ble_eq_true rfl⟩ rfl rfl (Nat.le_of_ble_eq_true rfl) dX2_block_20 (fun r_20 σ_20 hc_20 => ?_)
    refine r_if_ne X (tgt := 31) dX2_block_23 (by decide) (fun _ => ?_) (fun _ => ?_)
    · refine r_aload_n X (j := 1) dX2_block_26 rfl rfl ?_
      refine r_callVi X (q0 := 0) (ci := 2) (n := 0) (As := []) (st := []) (c_X2_refuse l D cI cZ α A hJ σ_20) ml_X2_72 im_X2_refuse se_X2_refuse ii_X2 co_X2_refuse (by decide +kernel) ⟨Nat.le_of_ble_eq_true rfl, Nat.le_of_ble_eq_true rfl⟩ rfl rfl rfl rfl (Nat.le_of_ble_eq_true rfl) dX2_block_27 (fun r_27 σ_27 hc_27 => ?_)
      exact r_ireturn X dX2_block_30
    · refine r_aload_n X (j := 1) dX2_block_31 rfl rfl ?_
      refine r_get X (ci := 2) (q0 := 0) (v := .ref (α 10)) inX2 rfl rfl 5 (by decide) rfl fl_X2_35 dX2_block_32 ?_
      refine r_iload_n X (j := 0) dX2_block_35 rfl rfl ?_
      refine r_iload_n X (j := 2) dX2_block_36 rfl rfl ?_
      refine r_iast X (q0 := 10) (t0 := 0) (kk := 10) rfl (fun _ => rfl) rfl dX2_block_37 ?_
      refine r_iload_n X (j := 0) dX2_block_38 rfl rfl ?_
      exact r_ireturn X dX2_block_39
set_option maxRecDepth 100000 in
set_option maxHeartbeats 4000000 in
theorem c_X2_dropTable (l : Launch) (D : va_G) (cI cZ : ClassId) (α : Nat → Nat) (A : Nat → Prop) (hJ : ∀ σ, va_D A ((kwX cI α) σ)) (x1 x2 : Int32) (σ : KS) : Ct l D (tyA cI cZ) (kwX cI α) A yX2_dropTable cX2_dropTable 3 none 4 vV [.ref (α 0), .int x1, .int x2] σ (m_X2_dropTable x1 x2 σ) := by
  refine Ct.of (own := RX2) hJ (by decide) rfl (Nat.le_of_ble_eq_true rfl) ?_
  intro p e s m args below meth c X
  refine r_sub (lv' := [(0, .ref (α 0)), (1, .int x1), (2, .int x2)]) [0, 1, 2] rfl ?_
  unfold m_X2_dropTable
  refine r_aload_n X (j := 0) dX2_dropTable_0 rfl rfl ?_
  refine r_get X (ci := 2) (q0 := 0) (v := .ref (α 3)) inX2 rfl rfl 2 (by decide) rfl fl_X2_25 dX2_dropTable_1 ?_
  refine r_aload_n X (j := 0) dX2_dropTable_4 rfl rfl ?_
  refine r_aload_n X (j := 0) dX2_dropTable_5 rfl rfl ?_
  refine r_iload_n X (j := 1) dX2_dropTable_6 rfl rfl ?_
  refine r_iload_n X (j := 2) dX2_dropTable_7 rfl rfl ?_
  refine r_callVi X (q0 := 0) (ci := 2) (n := 2) (As := [.int x1, .int x2]) (st := [.ref (α 0), .ref (α 3)]) (c_X2_tableIndex l D cI cZ α A hJ x1 x2 σ) ml_X2_190 im_X2_tableIndex se_X2_tableIndex ii_X2 co_X2_tableIndex (by decide +kernel) ⟨Nat.le_of_ble_eq_true rfl, Nat.le_of_ble_eq_true rfl⟩ rfl rfl rfl rfl (Nat.le_of_ble_eq_true rfl) dX2_dropTable_8 (fun r_8 σ_8 hc_8 => ?_)
  refine r_callVi X (q0 := 0) (ci := 2) (n := 1) (As := [.int r_8]) (st := [.ref (α 3)]) (c_X2_wordAt l D cI cZ α A hJ r_8 σ_8) ml_X2_86 im_X2_wordAt se_X2_wordAt ii_X2 co_X2_wordAt (by decide +kernel) ⟨Nat.le_of_ble_eq_true rfl, Nat.le_of_ble_eq_true rfl⟩ rfl rfl rfl rfl (Nat.le_of_ble_eq_true rfl) dX2_dropTable_11 (fun r_11 σ_11 hc_11 => ?_)
  refine r_callVv X (q0 := 3) (ci := 1) (n := 1) (As := [.int r_11]) (st := []) (c_X1t_givePlace l D cI cZ α A hJ r_11 σ_11) ml_X2_169 im_X1_givePlace se_X1_givePlace ii_X1 co_X1_givePlace (by decide +kernel) ⟨Nat.le_of_ble_eq_true rfl, Nat.le_of_ble_eq_true rfl⟩ rfl rfl rfl rfl (Nat.le_of_ble_eq_true rfl) dX2_dropTable_14 (fun r_14 σ_14 hc_14 => ?_)
  exact r_return X dX2_dropTable_17
set_option maxRecDepth 100000 in
set_option maxHeartbeats 4000000 in
theorem c_X2_frame (l : Launch) (D : va_G) (cI cZ : ClassId) (α : Nat → Nat) (A : Nat → Prop) (hJ : ∀ σ, va_D A ((kwX cI α) σ)) (x1 x2 : Int32) (σ : KS) : Ct l D (tyA cI cZ) (kwX cI α) A yX2_frame cX2_frame 3 (some .int) 4 vI [.ref (α 0), .int x1, .int x2] σ (m_X2_frame x1 x2 σ) := by
  refine Ct.of (own := RX2) hJ (by decide) rfl (Nat.le_of_ble_eq_true rfl) ?_
  intro p e s m args below meth c X
  refine r_sub (lv' := [(0, .ref (α 0)), (1, .int x1), (2, .int x2)]) [0, 1, 2] rfl ?_
  unfold m_X2_frame
  refine r_aload_n X (j := 0) dX2_frame_0 rfl rfl ?_
  refine r_iload_n X (j := 1) dX2_frame_1 rfl rfl ?_
  refine r_iload_n X (j := 2) dX2_frame_2 rfl rfl ?_
  refine r_callVi X (q0 := 0) (ci := 2) (n := 2) (As := [.int x1, .int x2]) (st := []) (c_X2_frameOfPage l D cI cZ α A hJ x1 x2 σ) ml_X2_136 im_X2_frameOfPage se_X2_frameOfPage ii_X2 co_X2_frameOfPage (by decide +kernel) ⟨Nat.le_of_ble_eq_true rfl, Nat.le_of_ble_eq_true rfl⟩ rfl rfl rfl rfl (Nat.le_of_ble_eq_true rfl) dX2_frame_3 (fun r_3 σ_3 hc_3 => ?_)
  exact r_ireturn X dX2_frame_6
set_option maxRecDepth 100000 in
set_option maxHeartbeats 4000000 in
theorem c_X2_removeProcess (l : Launch) (D : va_G) (cI cZ : ClassId) (α : Nat → Nat) (A : Nat → Prop) (hJ : ∀ σ, va_D A ((kwX cI α) σ)) (x1 : Int32) (σ : KS) : Ct l D (tyA cI cZ) (kwX cI α) A yX2_removeProcess cX2_removeProcess 2 none 4 vV [.ref (α 0), .int x1] σ (m_X2_removeProcess x1 σ) := by
  refine Ct.of (own := RX2) hJ (by decide) rfl (Nat.le_of_ble_eq_true rfl) ?_
  intro p e s m args below meth c X
  refine r_sub (lv' := [(0, .ref (α 0)), (1, .int x1)]) [0, 1] rfl ?_
  unfold m_X2_removeProcess
  refine r_aload_n X (j := 0) dX2_removeProcess_0 rfl rfl ?_
  refine r_get X (ci := 2) (q0 := 0) (v := .ref (α 2)) inX2 rfl rfl 1 (by decide) rfl fl_X2_21 dX2_removeProcess_1 ?_
  refine r_aload_n X (j := 0) dX2_removeProcess_4 rfl rfl ?_
  refine r_get X (ci := 2) (q0 := 0) (v := .ref (α 15)) inX2 rfl rfl 10 (by decide) rfl fl_X2_50 dX2_removeProcess_5 ?_
  refine r_iload_n X (j := 1) dX2_removeProcess_8 rfl rfl ?_
  refine r_iald X (q0 := 15) (t0 := 0) (kk := 15) rfl rfl dX2_removeProcess_9 ?_
  refine r_callVv X (q0 := 2) (ci := 1) (n := 1) (As := [.int (rd σ 15 x1)]) (st := []) (c_X1r_givePlace l D cI cZ α A hJ (rd σ 15 x1) σ) ml_X2_169 im_X1_givePlace se_X1_givePlace ii_X1 co_X1_givePlace (by decide +kernel) ⟨Nat.le_of_ble_eq_true rfl, Nat.le_of_ble_eq_true rfl⟩ rfl rfl rfl rfl (Nat.le_of_ble_eq_true rfl) dX2_removeProcess_10 (fun r_10 σ_10 hc_10 => ?_)
  refine r_aload_n X (j := 0) dX2_removeProcess_13 rfl rfl ?_
  refine r_get X (ci := 2) (q0 := 0) (v := .ref (α 11)) inX2 rfl rfl 6 (by decide) rfl fl_X2_38 dX2_removeProcess_14 ?_
  refine r_iload_n X (j := 1) dX2_removeProcess_17 rfl rfl ?_
  refine r_iconst X (v := 0) dX2_removeProcess_18 (by decide) ?_
  refine r_iast X (q0 := 11) (t0 := 0) (kk := 11) rfl (fun _ => rfl) rfl dX2_removeProcess_19 ?_
  refine r_aload_n X (j := 0) dX2_removeProcess_20 rfl rfl ?_
  refine r_get X (ci := 2) (q0 := 0) (v := .ref (α 12)) inX2 rfl rfl 7 (by decide) rfl fl_X2_41 dX2_removeProcess_21 ?_
  refine r_iload_n X (j := 1) dX2_removeProcess_24 rfl rfl ?_
  refine r_iconst X (v := (-1)) dX2_removeProcess_25 (by decide) ?_
  refine r_iast X (q0 := 12) (t0 := 0) (kk := 12) rfl (fun _ => rfl) rfl dX2_removeProcess_26 ?_
  exact r_return X dX2_removeProcess_27
set_option maxRecDepth 100000 in
set_option maxHeartbeats 4000000 in
theorem cl_X2_sharePages_2 (l : Launch) (D : va_G) (cI cZ : ClassId) (α : Nat → Nat) (A : Nat → Prop) (hJ : ∀ σ, va_D A ((kwX cI α) σ)) {p : Program} {e : Env} {s : State} {m : MethodId} {args : Array Value} {below : List Frame} {meth : Method} {c : Code} (X : CX p s m args meth c cX2_sharePages 5 RX2 D (tyA cI cZ) (kwX cI α) A none) : ∀ (n : Nat) (x1 : Int32) (x2 : Int32) (x3 : Int32) (σ : KS), Cr p l e (rmd 4) s m args below meth c 5 D (kwX cI α) A vV 2 [(0, .ref (α 0)), (1, .int x1), (2, .int x2), (3, .int x3)] [] σ (f_X2_sharePages_2 n x1 x2 x3 σ) := by
  intro n
  induction n with
  | zero => intros; exact r_none
  | succ n ih =>
    intro x1 x2 x3 σ
    rw [f_X2_sharePages_2]
    refine r_iload_n X (j := 3) dX2_sharePages_2 rfl rfl ?_
    refine r_aload_n X (j := 0) dX2_sharePages_3 rfl rfl ?_
    refine r_get X (ci := 2) (q0 := 0) (v := .ref (α 14)) inX2 rfl rfl 9 (by decide) rfl fl_X2_47 dX2_sharePages_4 ?_
    refine r_iload_n X (j := 1) dX2_sharePages_7 rfl rfl ?_
    refine r_iald X (q0 := 14) (t0 := 0) (kk := 14) rfl rfl dX2_sharePages_8 ?_
    refine r_icmp_ge X (tgt := 57) dX2_sharePages_9 (by decide) (fun _ => ?_) (fun _ => ?_)
    · refine r_aload_n X (j := 0) dX2_sharePages_57 rfl rfl ?_
      refine r_get X (ci := 2) (q0 := 0) (v := .ref (α 14)) inX2 rfl rfl 9 (by decide) rfl fl_X2_47 dX2_sharePages_58 ?_
      refine r_iload_n X (j := 2) dX2_sharePages_61 rfl rfl ?_
      refine r_aload_n X (j := 0) dX2_sharePages_62 rfl rfl ?_
      refine r_get X (ci := 2) (q0 := 0) (v := .ref (α 14)) inX2 rfl rfl 9 (by decide) rfl fl_X2_47 dX2_sharePages_63 ?_
      refine r_iload_n X (j := 1) dX2_sharePages_66 rfl rfl ?_
      refine r_iald X (q0 := 14) (t0 := 0) (kk := 14) rfl rfl dX2_sharePages_67 ?_
      refine r_iast X (q0 := 14) (t0 := 0) (kk := 14) rfl (fun _ => rfl) rfl dX2_sharePages_68 ?_
      exact r_return X dX2_sharePages_69
    · refine r_aload_n X (j := 0) dX2_sharePages_12 rfl rfl ?_
      refine r_iload_n X (j := 1) dX2_sharePages_13 rfl rfl ?_
      refine r_iload_n X (j := 3) dX2_sharePages_14 rfl rfl ?_
      refine r_callVi X (q0 := 0) (ci := 2) (n := 2) (As := [.int x1, .int x3]) (st := []) (c_X2_frameOfPage l D cI cZ α A hJ x1 x3 σ) ml_X2_136 im_X2_frameOfPage se_X2_frameOfPage ii_X2 co_X2_frameOfPage (by decide +kernel) ⟨Nat.le_of_ble_eq_true rfl, Nat.le_of_ble_eq_true rfl⟩ rfl rfl rfl rfl (Nat.le_of_ble_eq_true rfl) dX2_sharePages_15 (fun r_15 σ_15 hc_15 => ?_)
      refine r_istore X (lv' := [(4, .int r_15), (0, .ref (α 0)), (1, .int x1), (2, .int x2), (3, .int x3)]) dX2_sharePages_18 (by decide) rfl ?_
      refine r_iload X (j := 0) dX2_sharePages_20 rfl ?_
      refine r_callSi X (n := 1) (As := [.int r_15]) (st := []) (c_X2_isFrame l D cI cZ α A hJ r_15 σ_15) ml_X2_124 sm_X2_isFrame ii_X2 co_X2_isFrame (by decide +kernel) ⟨Nat.le_of_ble_eq_true rfl, Nat.le_of_ble_eq_true rfl⟩ rfl rfl (Nat.le_of_ble_eq_true rfl) dX2_sharePages_22 (fun r_22 σ_22 hc_22 => ?_)
      refine r_if_eq X (tgt := 39) dX2_sharePages_25 (by decide) (fun _ => ?_) (fun _ => ?_)
      · refine r_aload_n X (j := 1) dX2_sharePages_39 rfl rfl ?_
        refine r_aload_n X (j := 1) dX2_sharePages_40 rfl rfl ?_
        refine r_iload_n X (j := 3) dX2_sharePages_41 rfl rfl ?_
        refine r_iload_n X (j := 4) dX2_sharePages_42 rfl rfl ?_
        refine r_callVi X (q0 := 0) (ci := 2) (n := 2) (As := [.int x2, .int x3]) (st := [.ref (α 0)]) (c_X2_pageIndex l D cI cZ α A hJ x2 x3 σ_22) ml_X2_181 im_X2_pageIndex se_X2_pageIndex ii_X2 co_X2_pageIndex (by decide +kernel) ⟨Nat.le_of_ble_eq_true rfl, Nat.le_of_ble_eq_true rfl⟩ rfl rfl rfl rfl (Nat.le_of_ble_eq_true rfl) dX2_sharePages_43 (fun r_43 σ_43 hc_43 => ?_)
        refine r_iload X (j := 0) dX2_sharePages_46 rfl ?_
        refine r_callVv X (q0 := 0) (ci := 2) (n := 2) (As := [.int r_43, .int r_15]) (st := []) (c_X2_setWord l D cI cZ α A hJ r_43 r_15 σ_43) ml_X2_92 im_X2_setWord se_X2_setWord ii_X2 co_X2_setWord (by decide +kernel) ⟨Nat.le_of_ble_eq_true rfl, Nat.le_of_ble_eq_true rfl⟩ rfl rfl rfl rfl (Nat.le_of_ble_eq_true rfl) dX2_sharePages_48 (fun r_48 σ_48 hc_48 => ?_)
        refine r_iinc X (j := 4) (v := (x3 + 1)) (lv' := [(3, .int (x3 + 1)), (4, .int r_15), (0, .ref (α 0)), (1, .int x1), (2, .int x2)]) dX2_sharePages_51 rfl rfl (by decide) rfl ?_
        refine r_goto X (tgt := 2) dX2_sharePages_54 (by decide) ?_
        refine r_sub (lv' := [(0, .ref (α 0)), (1, .int x1), (2, .int x2), (3, .int (x3 + 1))]) [2, 3, 4, 0] rfl ?_
        exact ih x1 x2 (x3 + 1) σ_48
      · refine r_aload_n X (j := 1) dX2_sharePages_28 rfl rfl ?_
        refine r_get X (ci := 2) (q0 := 0) (v := .ref (α 9)) inX2 rfl rfl 4 (by decide) rfl fl_X2_32 dX2_sharePages_29 ?_
        refine r_iload X (j := 0) dX2_sharePages_32 rfl ?_
        refine r_dup2 X dX2_sharePages_34 rfl rfl ?_
        refine r_iald X (q0 := 9) (t0 := 0) (kk := 9) rfl rfl dX2_sharePages_35 ?_
        refine r_iconst X (v := 1) dX2_sharePages_36 (by decide) ?_
        refine r_iadd X dX2_sharePages_37 ?_
        refine r_iast X (q0 := 9) (t0 := 0) (kk := 9) rfl (fun _ => rfl) rfl dX2_sharePages_38 ?_
        refine r_aload_n X (j := 1) dX2_sharePages_39 rfl rfl ?_
        refine r_aload_n X (j := 1) dX2_sharePages_40 rfl rfl ?_
        refine r_iload_n X (j := 3) dX2_sharePages_41 rfl rfl ?_
        refine r_iload_n X (j := 4) dX2_sharePages_42 rfl rfl ?_
        refine r_callVi X (q0 := 0) (ci := 2) (n := 2) (As := [.int x2, .int x3]) (st := [.ref (α 0)]) (c_X2_pageIndex l D cI cZ α A hJ x2 x3 (wr σ_22 9 r_15 ((rd σ_22 9 r_15) + 1))) ml_X2_181 im_X2_pageIndex se_X2_pageIndex ii_X2 co_X2_pageIndex (by decide +kernel) ⟨Nat.le_of_ble_eq_true rfl, Nat.le_of_ble_eq_true rfl⟩ rfl rfl rfl rfl (Nat.le_of_ble_eq_true rfl) dX2_sharePages_43 (fun r_43 σ_43 hc_43 => ?_)
        refine r_iload X (j := 0) dX2_sharePages_46 rfl ?_
        refine r_callVv X (q0 := 0) (ci := 2) (n := 2) (As := [.int r_43, .int r_15]) (st := []) (c_X2_setWord l D cI cZ α A hJ r_43 r_15 σ_43) ml_X2_92 im_X2_setWord se_X2_setWord ii_X2 co_X2_setWord (by decide +kernel) ⟨Nat.le_of_ble_eq_true rfl, Nat.le_of_ble_eq_true rfl⟩ rfl rfl rfl rfl (Nat.le_of_ble_eq_true rfl) dX2_sharePages_48 (fun r_48 σ_48 hc_48 => ?_)
        refine r_iinc X (j := 4) (v := (x3 + 1)) (lv' := [(3, .int (x3 + 1)), (4, .int r_15), (0, .ref (α 0)), (1, .int x1), (2, .int x2)]) dX2_sharePages_51 rfl rfl (by decide) rfl ?_
        refine r_goto X (tgt := 2) dX2_sharePages_54 (by decide) ?_
        refine r_sub (lv' := [(0, .ref (α 0)), (1, .int x1), (2, .int x2), (3, .int (x3 + 1))]) [2, 3, 4, 0] rfl ?_
        exact ih x1 x2 (x3 + 1) σ_48
set_option maxRecDepth 100000 in
set_option maxHeartbeats 4000000 in
theorem c_X2_sharePages (l : Launch) (D : va_G) (cI cZ : ClassId) (α : Nat → Nat) (A : Nat → Prop) (hJ : ∀ σ, va_D A ((kwX cI α) σ)) (x1 x2 : Int32) (σ : KS) : Ct l D (tyA cI cZ) (kwX cI α) A yX2_sharePages cX2_sharePages 5 none 4 vV [.ref (α 0), .int x1, .int x2] σ (m_X2_sharePages x1 x2 σ) := by
  refine Ct.of (own := RX2) hJ (by decide) rfl (Nat.le_of_ble_eq_true rfl) ?_
  intro p e s m args below meth c X
  refine r_sub (lv' := [(0, .ref (α 0)), (1, .int x1), (2, .int x2)]) [0, 1, 2] rfl ?_
  unfold m_X2_sharePages
  refine r_iconst X (v := 0) dX2_sharePages_0 (by decide) ?_
  refine r_istore_n X (lv' := [(3, .int 0), (0, .ref (α 0)), (1, .int x1), (2, .int x2)]) dX2_sharePages_1 rfl (by decide) rfl ?_
  refine r_sub (lv' := [(0, .ref (α 0)), (1, .int x1), (2, .int x2), (3, .int 0)]) [1, 2, 3, 0] rfl ?_
  exact cl_X2_sharePages_2 l D cI cZ α A hJ X FU x1 x2 0 σ
set_option maxRecDepth 100000 in
set_option maxHeartbeats 4000000 in
theorem c_X2_takePageFrame (l : Launch) (D : va_G) (cI cZ : ClassId) (α : Nat → Nat) (A : Nat → Prop) (hJ : ∀ σ, va_D A ((kwX cI α) σ)) (σ : KS) : Ct l D (tyA cI cZ) (kwX cI α) A yX2_takePageFrame cX2_takePageFrame 2 (some .int) 4 vI [.ref (α 0)] σ (m_X2_takePageFrame σ) := by
  refine Ct.of (own := RX2) hJ (by decide) rfl (Nat.le_of_ble_eq_true rfl) ?_
  intro p e s m args below meth c X
  refine r_sub (lv' := [(0, .ref (α 0))]) [0] rfl ?_
  unfold m_X2_takePageFrame
  refine r_aload_n X (j := 0) dX2_takePageFrame_0 rfl rfl ?_
  refine r_get X (ci := 2) (q0 := 0) (v := .ref (α 1)) inX2 rfl rfl 0 (by decide) rfl fl_X2_10 dX2_takePageFrame_1 ?_
  refine r_iconst X (v := 0) dX2_takePageFrame_4 (by decide) ?_
  refine r_callVi X (q0 := 1) (ci := 0) (n := 1) (As := [.int 0]) (st := []) (c_X0_takeBlock l D cI cZ α A hJ 0 σ) ml_X2_121 im_X0_takeBlock se_X0_takeBlock ii_X0 co_X0_takeBlock (by decide +kernel) ⟨Nat.le_of_ble_eq_true rfl, Nat.le_of_ble_eq_true rfl⟩ rfl rfl rfl rfl (Nat.le_of_ble_eq_true rfl) dX2_takePageFrame_5 (fun r_5 σ_5 hc_5 => ?_)
  refine r_istore_n X (lv' := [(1, .int r_5), (0, .ref (α 0))]) dX2_takePageFrame_8 rfl (by decide) rfl ?_
  refine r_iload_n X (j := 0) dX2_takePageFrame_9 rfl rfl ?_
  refine r_callSi X (n := 1) (As := [.int r_5]) (st := []) (c_X2_isFrame l D cI cZ α A hJ r_5 σ_5) ml_X2_124 sm_X2_isFrame ii_X2 co_X2_isFrame (by decide +kernel) ⟨Nat.le_of_ble_eq_true rfl, Nat.le_of_ble_eq_true rfl⟩ rfl rfl (Nat.le_of_ble_eq_true rfl) dX2_takePageFrame_10 (fun r_10 σ_10 hc_10 => ?_)
  refine r_if_ne X (tgt := 18) dX2_takePageFrame_13 (by decide) (fun _ => ?_) (fun _ => ?_)
  · refine r_iconst X (v := (-1)) dX2_takePageFrame_16 (by decide) ?_
    exact r_ireturn X dX2_takePageFrame_17
  · refine r_aload_n X (j := 1) dX2_takePageFrame_18 rfl rfl ?_
    refine r_get X (ci := 2) (q0 := 0) (v := .ref (α 9)) inX2 rfl rfl 4 (by decide) rfl fl_X2_32 dX2_takePageFrame_19 ?_
    refine r_iload_n X (j := 0) dX2_takePageFrame_22 rfl rfl ?_
    refine r_iconst X (v := 1) dX2_takePageFrame_23 (by decide) ?_
    refine r_iast X (q0 := 9) (t0 := 0) (kk := 9) rfl (fun _ => rfl) rfl dX2_takePageFrame_24 ?_
    refine r_iload_n X (j := 0) dX2_takePageFrame_25 rfl rfl ?_
    exact r_ireturn X dX2_takePageFrame_26
set_option maxRecDepth 100000 in
set_option maxHeartbeats 4000000 in
theorem c_X2_wordIndex (l : Launch) (D : va_G) (cI cZ : ClassId) (α : Nat → Nat) (A : Nat → Prop) (hJ : ∀ σ, va_D A ((kwX cI α) σ)) (x1 x2 : Int32) (σ : KS) : Ct l D (tyA cI cZ) (kwX cI α) A yX2_wordIndex cX2_wordIndex 3 (some .int) 4 vI [.ref (α 0), .int x1, .int x2] σ (m_X2_wordIndex x1 x2 σ) := by
  refine Ct.of (own := RX2) hJ (by decide) rfl (Nat.le_of_ble_eq_true rfl) ?_
  intro p e s m args below meth c X
  refine r_sub (lv' := [(0, .ref (α 0)), (1, .int x1), (2, .int x2)]) [0, 1, 2] rfl ?_
  unfold m_X2_wordIndex
  refine r_aload_n X (j := 0) dX2_wordIndex_0 rfl rfl ?_
  refine r_iload_n X (j := 1) dX2_wordIndex_1 rfl rfl ?_
  refine r_iload_n X (j := 2) dX2_wordIndex_2 rfl rfl ?_
  refine r_callSi X (n := 1) (As := [.int x2]) (st := [.int x1, .ref (α 0)]) (c_X2_pageOf l D cI cZ α A hJ x2 σ) ml_X2_76 sm_X2_pageOf ii_X2 co_X2_pageOf (by decide +kernel) ⟨Nat.le_of_ble_eq_true rfl, Nat.le_of_ble_eq_true rfl⟩ rfl rfl (Nat.le_of_ble_eq_true rfl) dX2_wordIndex_3 (fun r_3 σ_3 hc_3 => ?_)
  refine r_callVi X (q0 := 0) (ci := 2) (n := 2) (As := [.int x1, .int r_3]) (st := []) (c_X2_frameOfPage l D cI cZ α A hJ x1 r_3 σ_3) ml_X2_136 im_X2_frameOfPage se_X2_frameOfPage ii_X2 co_X2_frameOfPage (by decide +kernel) ⟨Nat.le_of_ble_eq_true rfl, Nat.le_of_ble_eq_true rfl⟩ rfl rfl rfl rfl (Nat.le_of_ble_eq_true rfl) dX2_wordIndex_6 (fun r_6 σ_6 hc_6 => ?_)
  refine r_bipush X (v := 64) dX2_wordIndex_9 (by decide) ?_
  refine r_imul X dX2_wordIndex_11 ?_
  refine r_iload_n X (j := 2) dX2_wordIndex_12 rfl rfl ?_
  refine r_bipush X (v := 63) dX2_wordIndex_13 (by decide) ?_
  refine r_iand X dX2_wordIndex_15 ?_
  refine r_iadd X dX2_wordIndex_16 ?_
  exact r_ireturn X dX2_wordIndex_17
set_option maxRecDepth 100000 in
set_option maxHeartbeats 4000000 in
theorem c_X2_addTable (l : Launch) (D : va_G) (cI cZ : ClassId) (α : Nat → Nat) (A : Nat → Prop) (hJ : ∀ σ, va_D A ((kwX cI α) σ)) (x1 x2 : Int32) (σ : KS) : Ct l D (tyA cI cZ) (kwX cI α) A yX2_addTable cX2_addTable 4 (some .boolean) 5 vI [.ref (α 0), .int x1, .int x2] σ (m_X2_addTable x1 x2 σ) := by
  refine Ct.of (own := RX2) hJ (by decide) rfl (Nat.le_of_ble_eq_true rfl) ?_
  intro p e s m args below meth c X
  refine r_sub (lv' := [(0, .ref (α 0)), (1, .int x1), (2, .int x2)]) [0, 1, 2] rfl ?_
  unfold m_X2_addTable
  refine r_aload_n X (j := 0) dX2_addTable_0 rfl rfl ?_
  refine r_get X (ci := 2) (q0 := 0) (v := .ref (α 3)) inX2 rfl rfl 2 (by decide) rfl fl_X2_25 dX2_addTable_1 ?_
  refine r_callVi X (q0 := 3) (ci := 1) (n := 0) (As := []) (st := []) (c_X1t_takePlace l D cI cZ α A hJ σ) ml_X2_163 im_X1_takePlace se_X1_takePlace ii_X1 co_X1_takePlace (by decide +kernel) ⟨Nat.le_of_ble_eq_true rfl, Nat.le_of_ble_eq_true rfl⟩ rfl rfl rfl rfl (Nat.le_of_ble_eq_true rfl) dX2_addTable_4 (fun r_4 σ_4 hc_4 => ?_)
  refine r_istore_n X (lv' := [(3, .int r_4), (0, .ref (α 0)), (1, .int x1), (2, .int x2)]) dX2_addTable_7 rfl (by decide) rfl ?_
  refine r_iload_n X (j := 0) dX2_addTable_8 rfl rfl ?_
  refine r_iconst X (v := (-1)) dX2_addTable_9 (by decide) ?_
  refine r_icmp_ne X (tgt := 15) dX2_addTable_10 (by decide) (fun _ => ?_) (fun _ => ?_)
  · refine r_iconst X (v := 0) dX2_addTable_13 (by decide) ?_
    exact r_zreturn X (by decide) dX2_addTable_14
  · refine r_aload_n X (j := 1) dX2_addTable_15 rfl rfl ?_
    refine r_aload_n X (j := 1) dX2_addTable_16 rfl rfl ?_
    refine r_iload_n X (j := 2) dX2_addTable_17 rfl rfl ?_
    refine r_iload_n X (j := 3) dX2_addTable_18 rfl rfl ?_
    refine r_callVi X (q0 := 0) (ci := 2) (n := 2) (As := [.int x1, .int x2]) (st := [.ref (α 0)]) (c_X2_tableIndex l D cI cZ α A hJ x1 x2 σ_4) ml_X2_190 im_X2_tableIndex se_X2_tableIndex ii_X2 co_X2_tableIndex (by decide +kernel) ⟨Nat.le_of_ble_eq_true rfl, Nat.le_of_ble_eq_true rfl⟩ rfl rfl rfl rfl (Nat.le_of_ble_eq_true rfl) dX2_addTable_19 (fun r_19 σ_19 hc_19 => ?_)
    refine r_iload_n X (j := 0) dX2_addTable_22 rfl rfl ?_
    refine r_callVv X (q0 := 0) (ci := 2) (n := 2) (As := [.int r_19, .int r_4]) (st := []) (c_X2_setWord l D cI cZ α A hJ r_19 r_4 σ_19) ml_X2_92 im_X2_setWord se_X2_setWord ii_X2 co_X2_setWord (by decide +kernel) ⟨Nat.le_of_ble_eq_true rfl, Nat.le_of_ble_eq_true rfl⟩ rfl rfl rfl rfl (Nat.le_of_ble_eq_true rfl) dX2_addTable_23 (fun r_23 σ_23 hc_23 => ?_)
    refine r_iconst X (v := 1) dX2_addTable_26 (by decide) ?_
    exact r_zreturn X (by decide) dX2_addTable_27
set_option maxRecDepth 100000 in
set_option maxHeartbeats 4000000 in
theorem cl_X2_leaveChildren_2 (l : Launch) (D : va_G) (cI cZ : ClassId) (α : Nat → Nat) (A : Nat → Prop) (hJ : ∀ σ, va_D A ((kwX cI α) σ)) {p : Program} {e : Env} {s : State} {m : MethodId} {args : Array Value} {below : List Frame} {meth : Method} {c : Code} (X : CX p s m args meth c cX2_leaveChildren 3 RX2 D (tyA cI cZ) (kwX cI α) A none) : ∀ (n : Nat) (x1 : Int32) (x2 : Int32) (σ : KS), Cr p l e (rmd 5) s m args below meth c 3 D (kwX cI α) A vV 2 [(0, .ref (α 0)), (1, .int x1), (2, .int x2)] [] σ (f_X2_leaveChildren_2 n x1 x2 σ) := by
  intro n
  induction n with
  | zero => intros; exact r_none
  | succ n ih =>
    intro x1 x2 σ
    rw [f_X2_leaveChildren_2]
    refine r_iload_n X (j := 2) dX2_leaveChildren_2 rfl rfl ?_
    refine r_bipush X (v := 16) dX2_leaveChildren_3 (by decide) ?_
    refine r_icmp_ge X (tgt := 49) dX2_leaveChildren_5 (by decide) (fun _ => ?_) (fun _ => ?_)
    · exact r_return X dX2_leaveChildren_49
    · refine r_aload_n X (j := 0) dX2_leaveChildren_8 rfl rfl ?_
      refine r_get X (ci := 2) (q0 := 0) (v := .ref (α 12)) inX2 rfl rfl 7 (by decide) rfl fl_X2_41 dX2_leaveChildren_9 ?_
      refine r_iload_n X (j := 2) dX2_leaveChildren_12 rfl rfl ?_
      refine r_iald X (q0 := 12) (t0 := 0) (kk := 12) rfl rfl dX2_leaveChildren_13 ?_
      refine r_iload_n X (j := 1) dX2_leaveChildren_14 rfl rfl ?_
      refine r_icmp_ne X (tgt := 43) dX2_leaveChildren_15 (by decide) (fun _ => ?_) (fun _ => ?_)
      · refine r_aload_n X (j := 0) dX2_leaveChildren_18 rfl rfl ?_
        refine r_get X (ci := 2) (q0 := 0) (v := .ref (α 11)) inX2 rfl rfl 6 (by decide) rfl fl_X2_38 dX2_leaveChildren_19 ?_
        refine r_iload_n X (j := 2) dX2_leaveChildren_22 rfl rfl ?_
        refine r_iald X (q0 := 11) (t0 := 0) (kk := 11) rfl rfl dX2_leaveChildren_23 ?_
        refine r_iconst X (v := 2) dX2_leaveChildren_24 (by decide) ?_
        refine r_icmp_ne X (tgt := 36) dX2_leaveChildren_25 (by decide) (fun _ => ?_) (fun _ => ?_)
        · refine r_aload_n X (j := 0) dX2_leaveChildren_28 rfl rfl ?_
          refine r_iload_n X (j := 2) dX2_leaveChildren_29 rfl rfl ?_
          refine r_callVv X (q0 := 0) (ci := 2) (n := 1) (As := [.int x2]) (st := []) (c_X2_removeProcess l D cI cZ α A hJ x2 σ) ml_X2_102 im_X2_removeProcess se_X2_removeProcess ii_X2 co_X2_removeProcess (by decide +kernel) ⟨Nat.le_of_ble_eq_true rfl, Nat.le_of_ble_eq_true rfl⟩ rfl rfl rfl rfl (Nat.le_of_ble_eq_true rfl) dX2_leaveChildren_30 (fun r_30 σ_30 hc_30 => ?_)
          refine r_goto X (tgt := 43) dX2_leaveChildren_33 (by decide) ?_
          refine r_iinc X (j := 2) (v := (x2 + 1)) (lv' := [(2, .int (x2 + 1)), (0, .ref (α 0)), (1, .int x1)]) dX2_leaveChildren_43 rfl rfl (by decide) rfl ?_
          refine r_goto X (tgt := 2) dX2_leaveChildren_46 (by decide) ?_
          refine r_sub (lv' := [(0, .ref (α 0)), (1, .int x1), (2, .int (x2 + 1))]) [1, 2, 0] rfl ?_
          exact ih x1 (x2 + 1) σ_30
        · refine r_aload_n X (j := 0) dX2_leaveChildren_36 rfl rfl ?_
          refine r_get X (ci := 2) (q0 := 0) (v := .ref (α 12)) inX2 rfl rfl 7 (by decide) rfl fl_X2_41 dX2_leaveChildren_37 ?_
          refine r_iload_n X (j := 2) dX2_leaveChildren_40 rfl rfl ?_
          refine r_iconst X (v := (-1)) dX2_leaveChildren_41 (by decide) ?_
          refine r_iast X (q0 := 12) (t0 := 0) (kk := 12) rfl (fun _ => rfl) rfl dX2_leaveChildren_42 ?_
          refine r_iinc X (j := 2) (v := (x2 + 1)) (lv' := [(2, .int (x2 + 1)), (0, .ref (α 0)), (1, .int x1)]) dX2_leaveChildren_43 rfl rfl (by decide) rfl ?_
          refine r_goto X (tgt := 2) dX2_leaveChildren_46 (by decide) ?_
          refine r_sub (lv' := [(0, .ref (α 0)), (1, .int x1), (2, .int (x2 + 1))]) [1, 2, 0] rfl ?_
          exact ih x1 (x2 + 1) (wr σ 12 x2 (-1))
      · refine r_iinc X (j := 2) (v := (x2 + 1)) (lv' := [(2, .int (x2 + 1)), (0, .ref (α 0)), (1, .int x1)]) dX2_leaveChildren_43 rfl rfl (by decide) rfl ?_
        refine r_goto X (tgt := 2) dX2_leaveChildren_46 (by decide) ?_
        refine r_sub (lv' := [(0, .ref (α 0)), (1, .int x1), (2, .int (x2 + 1))]) [1, 2, 0] rfl ?_
        exact ih x1 (x2 + 1) σ
set_option maxRecDepth 100000 in
set_option maxHeartbeats 4000000 in
theorem c_X2_leaveChildren (l : Launch) (D : va_G) (cI cZ : ClassId) (α : Nat → Nat) (A : Nat → Prop) (hJ : ∀ σ, va_D A ((kwX cI α) σ)) (x1 : Int32) (σ : KS) : Ct l D (tyA cI cZ) (kwX cI α) A yX2_leaveChildren cX2_leaveChildren 3 none 5 vV [.ref (α 0), .int x1] σ (m_X2_leaveChildren x1 σ) := by
  refine Ct.of (own := RX2) hJ (by decide) rfl (Nat.le_of_ble_eq_true rfl) ?_
  intro p e s m args below meth c X
  refine r_sub (lv' := [(0, .ref (α 0)), (1, .int x1)]) [0, 1] rfl ?_
  unfold m_X2_leaveChildren
  refine r_iconst X (v := 0) dX2_leaveChildren_0 (by decide) ?_
  refine r_istore_n X (lv' := [(2, .int 0), (0, .ref (α 0)), (1, .int x1)]) dX2_leaveChildren_1 rfl (by decide) rfl ?_
  refine r_sub (lv' := [(0, .ref (α 0)), (1, .int x1), (2, .int 0)]) [1, 2, 0] rfl ?_
  exact cl_X2_leaveChildren_2 l D cI cZ α A hJ X FU x1 0 σ
set_option maxRecDepth 100000 in
set_option maxHeartbeats 4000000 in
theorem c_X2_load (l : Launch) (D : va_G) (cI cZ : ClassId) (α : Nat → Nat) (A : Nat → Prop) (hJ : ∀ σ, va_D A ((kwX cI α) σ)) (x1 x2 : Int32) (σ : KS) : Ct l D (tyA cI cZ) (kwX cI α) A yX2_load cX2_load 3 (some .int) 5 vI [.ref (α 0), .int x1, .int x2] σ (m_X2_load x1 x2 σ) := by
  refine Ct.of (own := RX2) hJ (by decide) rfl (Nat.le_of_ble_eq_true rfl) ?_
  intro p e s m args below meth c X
  refine r_sub (lv' := [(0, .ref (α 0)), (1, .int x1), (2, .int x2)]) [0, 1, 2] rfl ?_
  unfold m_X2_load
  refine r_aload_n X (j := 0) dX2_load_0 rfl rfl ?_
  refine r_iload_n X (j := 1) dX2_load_1 rfl rfl ?_
  refine r_iload_n X (j := 2) dX2_load_2 rfl rfl ?_
  refine r_callSi X (n := 1) (As := [.int x2]) (st := [.int x1, .ref (α 0)]) (c_X2_pageOf l D cI cZ α A hJ x2 σ) ml_X2_76 sm_X2_pageOf ii_X2 co_X2_pageOf (by decide +kernel) ⟨Nat.le_of_ble_eq_true rfl, Nat.le_of_ble_eq_true rfl⟩ rfl rfl (Nat.le_of_ble_eq_true rfl) dX2_load_3 (fun r_3 σ_3 hc_3 => ?_)
  refine r_callVi X (q0 := 0) (ci := 2) (n := 2) (As := [.int x1, .int r_3]) (st := []) (c_X2_hasPage l D cI cZ α A hJ x1 r_3 σ_3) ml_X2_79 im_X2_hasPage se_X2_hasPage ii_X2 co_X2_hasPage (by decide +kernel) ⟨Nat.le_of_ble_eq_true rfl, Nat.le_of_ble_eq_true rfl⟩ rfl rfl rfl rfl (Nat.le_of_ble_eq_true rfl) dX2_load_6 (fun r_6 σ_6 hc_6 => ?_)
  refine r_if_ne X (tgt := 14) dX2_load_9 (by decide) (fun _ => ?_) (fun _ => ?_)
  · refine r_iconst X (v := 0) dX2_load_12 (by decide) ?_
    exact r_ireturn X dX2_load_13
  · refine r_aload_n X (j := 0) dX2_load_14 rfl rfl ?_
    refine r_aload_n X (j := 0) dX2_load_15 rfl rfl ?_
    refine r_iload_n X (j := 1) dX2_load_16 rfl rfl ?_
    refine r_iload_n X (j := 2) dX2_load_17 rfl rfl ?_
    refine r_callVi X (q0 := 0) (ci := 2) (n := 2) (As := [.int x1, .int x2]) (st := [.ref (α 0)]) (c_X2_wordIndex l D cI cZ α A hJ x1 x2 σ_6) ml_X2_82 im_X2_wordIndex se_X2_wordIndex ii_X2 co_X2_wordIndex (by decide +kernel) ⟨Nat.le_of_ble_eq_true rfl, Nat.le_of_ble_eq_true rfl⟩ rfl rfl rfl rfl (Nat.le_of_ble_eq_true rfl) dX2_load_18 (fun r_18 σ_18 hc_18 => ?_)
    refine r_callVi X (q0 := 0) (ci := 2) (n := 1) (As := [.int r_18]) (st := []) (c_X2_wordAt l D cI cZ α A hJ r_18 σ_18) ml_X2_86 im_X2_wordAt se_X2_wordAt ii_X2 co_X2_wordAt (by decide +kernel) ⟨Nat.le_of_ble_eq_true rfl, Nat.le_of_ble_eq_true rfl⟩ rfl rfl rfl rfl (Nat.le_of_ble_eq_true rfl) dX2_load_21 (fun r_21 σ_21 hc_21 => ?_)
    exact r_ireturn X dX2_load_24
set_option maxRecDepth 100000 in
set_option maxHeartbeats 4000000 in
theorem cl_X2_ownPage_43 (l : Launch) (D : va_G) (cI cZ : ClassId) (α : Nat → Nat) (A : Nat → Prop) (hJ : ∀ σ, va_D A ((kwX cI α) σ)) {p : Program} {e : Env} {s : State} {m : MethodId} {args : Array Value} {below : List Frame} {meth : Method} {c : Code} (X : CX p s m args meth c cX2_ownPage 6 RX2 D (tyA cI cZ) (kwX cI α) A (some .boolean)) : ∀ (n : Nat) (x1 : Int32) (x2 : Int32) (x3 : Int32) (x4 : Int32) (x5 : Int32) (σ : KS), Cr p l e (rmd 5) s m args below meth c 6 D (kwX cI α) A vI 43 [(0, .ref (α 0)), (1, .int x1), (2, .int x2), (3, .int x3), (4, .int x4), (5, .int x5)] [] σ (f_X2_ownPage_43 n x1 x2 x3 x4 x5 σ) := by
  intro n
  induction n with
  | zero => intros; exact r_none
  | succ n ih =>
    intro x1 x2 x3 x4 x5 σ
    rw [f_X2_ownPage_43]
    refine r_iload X (j := 5) dX2_ownPage_43 rfl ?_
    refine r_bipush X (v := 64) dX2_ownPage_45 (by decide) ?_
    refine r_icmp_ge X (tgt := 79) dX2_ownPage_47 (by decide) (fun _ => ?_) (fun _ => ?_)
    · refine r_aload_n X (j := 0) dX2_ownPage_79 rfl rfl ?_
      refine r_iload_n X (j := 3) dX2_ownPage_80 rfl rfl ?_
      refine r_callVv X (q0 := 0) (ci := 2) (n := 1) (As := [.int x3]) (st := []) (c_X2_dropPageFrame l D cI cZ α A hJ x3 σ) ml_X2_187 im_X2_dropPageFrame se_X2_dropPageFrame ii_X2 co_X2_dropPageFrame (by decide +kernel) ⟨Nat.le_of_ble_eq_true rfl, Nat.le_of_ble_eq_true rfl⟩ rfl rfl rfl rfl (Nat.le_of_ble_eq_true rfl) dX2_ownPage_81 (fun r_81 σ_81 hc_81 => ?_)
      refine r_aload_n X (j := 0) dX2_ownPage_84 rfl rfl ?_
      refine r_aload_n X (j := 0) dX2_ownPage_85 rfl rfl ?_
      refine r_iload_n X (j := 1) dX2_ownPage_86 rfl rfl ?_
      refine r_iload_n X (j := 2) dX2_ownPage_87 rfl rfl ?_
      refine r_callVi X (q0 := 0) (ci := 2) (n := 2) (As := [.int x1, .int x2]) (st := [.ref (α 0)]) (c_X2_pageIndex l D cI cZ α A hJ x1 x2 σ_81) ml_X2_181 im_X2_pageIndex se_X2_pageIndex ii_X2 co_X2_pageIndex (by decide +kernel) ⟨Nat.le_of_ble_eq_true rfl, Nat.le_of_ble_eq_true rfl⟩ rfl rfl rfl rfl (Nat.le_of_ble_eq_true rfl) dX2_ownPage_88 (fun r_88 σ_88 hc_88 => ?_)
      refine r_iload X (j := 4) dX2_ownPage_91 rfl ?_
      refine r_callVv X (q0 := 0) (ci := 2) (n := 2) (As := [.int r_88, .int x4]) (st := []) (c_X2_setWord l D cI cZ α A hJ r_88 x4 σ_88) ml_X2_92 im_X2_setWord se_X2_setWord ii_X2 co_X2_setWord (by decide +kernel) ⟨Nat.le_of_ble_eq_true rfl, Nat.le_of_ble_eq_true rfl⟩ rfl rfl rfl rfl (Nat.le_of_ble_eq_true rfl) dX2_ownPage_93 (fun r_93 σ_93 hc_93 => ?_)
      refine r_aload_n X (j := 0) dX2_ownPage_96 rfl rfl ?_
      refine r_dup X dX2_ownPage_97 rfl ?_
      refine r_get X (ci := 2) (q0 := 0) (v := .int (gv σ_93 1)) inX2 rfl rfl 13 (by decide) rfl fl_X2_154 dX2_ownPage_98 ?_
      refine r_iconst X (v := 1) dX2_ownPage_101 (by decide) ?_
      refine r_iadd X dX2_ownPage_102 ?_
      refine r_put X (ci := 2) (q0 := 0) (j := 1) inX2 rfl tyX2_ok nmX2 rfl 13 (by decide) rfl fl_X2_154 rfl (by decide +kernel) (Nat.le_of_ble_eq_true rfl) dX2_ownPage_103 ?_
      refine r_iconst X (v := 1) dX2_ownPage_106 (by decide) ?_
      exact r_zreturn X (by decide) dX2_ownPage_107
    · refine r_aload_n X (j := 0) dX2_ownPage_50 rfl rfl ?_
      refine r_iload X (j := 4) dX2_ownPage_51 rfl ?_
      refine r_bipush X (v := 64) dX2_ownPage_53 (by decide) ?_
      refine r_imul X dX2_ownPage_55 ?_
      refine r_iload X (j := 5) dX2_ownPage_56 rfl ?_
      refine r_iadd X dX2_ownPage_58 ?_
      refine r_aload_n X (j := 0) dX2_ownPage_59 rfl rfl ?_
      refine r_iload_n X (j := 3) dX2_ownPage_60 rfl rfl ?_
      refine r_bipush X (v := 64) dX2_ownPage_61 (by decide) ?_
      refine r_imul X dX2_ownPage_63 ?_
      refine r_iload X (j := 5) dX2_ownPage_64 rfl ?_
      refine r_iadd X dX2_ownPage_66 ?_
      refine r_callVi X (q0 := 0) (ci := 2) (n := 1) (As := [.int ((x3 * 64) + x5)]) (st := [.int ((x4 * 64) + x5), .ref (α 0)]) (c_X2_wordAt l D cI cZ α A hJ ((x3 * 64) + x5) σ) ml_X2_86 im_X2_wordAt se_X2_wordAt ii_X2 co_X2_wordAt (by decide +kernel) ⟨Nat.le_of_ble_eq_true rfl, Nat.le_of_ble_eq_true rfl⟩ rfl rfl rfl rfl (Nat.le_of_ble_eq_true rfl) dX2_ownPage_67 (fun r_67 σ_67 hc_67 => ?_)
      refine r_callVv X (q0 := 0) (ci := 2) (n := 2) (As := [.int ((x4 * 64) + x5), .int r_67]) (st := []) (c_X2_setWord l D cI cZ α A hJ ((x4 * 64) + x5) r_67 σ_67) ml_X2_92 im_X2_setWord se_X2_setWord ii_X2 co_X2_setWord (by decide +kernel) ⟨Nat.le_of_ble_eq_true rfl, Nat.le_of_ble_eq_true rfl⟩ rfl rfl rfl rfl (Nat.le_of_ble_eq_true rfl) dX2_ownPage_70 (fun r_70 σ_70 hc_70 => ?_)
      refine r_iinc X (j := 5) (v := (x5 + 1)) (lv' := [(5, .int (x5 + 1)), (0, .ref (α 0)), (1, .int x1), (2, .int x2), (3, .int x3), (4, .int x4)]) dX2_ownPage_73 rfl rfl (by decide) rfl ?_
      refine r_goto X (tgt := 43) dX2_ownPage_76 (by decide) ?_
      refine r_sub (lv' := [(0, .ref (α 0)), (1, .int x1), (2, .int x2), (3, .int x3), (4, .int x4), (5, .int (x5 + 1))]) [1, 2, 3, 4, 5, 0] rfl ?_
      exact ih x1 x2 x3 x4 (x5 + 1) σ_70
set_option maxRecDepth 100000 in
set_option maxHeartbeats 4000000 in
theorem c_X2_ownPage (l : Launch) (D : va_G) (cI cZ : ClassId) (α : Nat → Nat) (A : Nat → Prop) (hJ : ∀ σ, va_D A ((kwX cI α) σ)) (x1 x2 : Int32) (σ : KS) : Ct l D (tyA cI cZ) (kwX cI α) A yX2_ownPage cX2_ownPage 6 (some .boolean) 5 vI [.ref (α 0), .int x1, .int x2] σ (m_X2_ownPage x1 x2 σ) := by
  refine Ct.of (own := RX2) hJ (by decide) rfl (Nat.le_of_ble_eq_true rfl) ?_
  intro p e s m args below meth c X
  refine r_sub (lv' := [(0, .ref (α 0)), (1, .int x1), (2, .int x2)]) [0, 1, 2] rfl ?_
  unfold m_X2_ownPage
  refine r_aload_n X (j := 0) dX2_ownPage_0 rfl rfl ?_
  refine r_iload_n X (j := 1) dX2_ownPage_1 rfl rfl ?_
  refine r_iload_n X (j := 2) dX2_ownPage_2 rfl rfl ?_
  refine r_callVi X (q0 := 0) (ci := 2) (n := 2) (As := [.int x1, .int x2]) (st := []) (c_X2_frameOfPage l D cI cZ α A hJ x1 x2 σ) ml_X2_136 im_X2_frameOfPage se_X2_frameOfPage ii_X2 co_X2_frameOfPage (by decide +kernel) ⟨Nat.le_of_ble_eq_true rfl, Nat.le_of_ble_eq_true rfl⟩ rfl rfl rfl rfl (Nat.le_of_ble_eq_true rfl) dX2_ownPage_3 (fun r_3 σ_3 hc_3 => ?_)
  refine r_istore_n X (lv' := [(3, .int r_3), (0, .ref (α 0)), (1, .int x1), (2, .int x2)]) dX2_ownPage_6 rfl (by decide) rfl ?_
  refine r_iload_n X (j := 0) dX2_ownPage_7 rfl rfl ?_
  refine r_callSi X (n := 1) (As := [.int r_3]) (st := []) (c_X2_isFrame l D cI cZ α A hJ r_3 σ_3) ml_X2_124 sm_X2_isFrame ii_X2 co_X2_isFrame (by decide +kernel) ⟨Nat.le_of_ble_eq_true rfl, Nat.le_of_ble_eq_true rfl⟩ rfl rfl (Nat.le_of_ble_eq_true rfl) dX2_ownPage_8 (fun r_8 σ_8 hc_8 => ?_)
  refine r_if_eq X (tgt := 24) dX2_ownPage_11 (by decide) (fun _ => ?_) (fun _ => ?_)
  · refine r_iconst X (v := 1) dX2_ownPage_24 (by decide) ?_
    exact r_zreturn X (by decide) dX2_ownPage_25
  · refine r_aload_n X (j := 1) dX2_ownPage_14 rfl rfl ?_
    refine r_get X (ci := 2) (q0 := 0) (v := .ref (α 9)) inX2 rfl rfl 4 (by decide) rfl fl_X2_32 dX2_ownPage_15 ?_
    refine r_iload_n X (j := 0) dX2_ownPage_18 rfl rfl ?_
    refine r_iald X (q0 := 9) (t0 := 0) (kk := 9) rfl rfl dX2_ownPage_19 ?_
    refine r_iconst X (v := 2) dX2_ownPage_20 (by decide) ?_
    refine r_icmp_ge X (tgt := 26) dX2_ownPage_21 (by decide) (fun _ => ?_) (fun _ => ?_)
    · refine r_aload_n X (j := 1) dX2_ownPage_26 rfl rfl ?_
      refine r_callVi X (q0 := 0) (ci := 2) (n := 0) (As := []) (st := []) (c_X2_takePageFrame l D cI cZ α A hJ σ_8) ml_X2_184 im_X2_takePageFrame se_X2_takePageFrame ii_X2 co_X2_takePageFrame (by decide +kernel) ⟨Nat.le_of_ble_eq_true rfl, Nat.le_of_ble_eq_true rfl⟩ rfl rfl rfl rfl (Nat.le_of_ble_eq_true rfl) dX2_ownPage_27 (fun r_27 σ_27 hc_27 => ?_)
      refine r_istore X (lv' := [(4, .int r_27), (3, .int r_3), (0, .ref (α 0)), (1, .int x1), (2, .int x2)]) dX2_ownPage_30 (by decide) rfl ?_
      refine r_iload X (j := 0) dX2_ownPage_32 rfl ?_
      refine r_iconst X (v := (-1)) dX2_ownPage_34 (by decide) ?_
      refine r_icmp_ne X (tgt := 40) dX2_ownPage_35 (by decide) (fun _ => ?_) (fun _ => ?_)
      · refine r_iconst X (v := 0) dX2_ownPage_38 (by decide) ?_
        exact r_zreturn X (by decide) dX2_ownPage_39
      · refine r_iconst X (v := 0) dX2_ownPage_40 (by decide) ?_
        refine r_istore X (lv' := [(5, .int 0), (4, .int r_27), (3, .int r_3), (0, .ref (α 0)), (1, .int x1), (2, .int x2)]) dX2_ownPage_41 (by decide) rfl ?_
        refine r_sub (lv' := [(0, .ref (α 0)), (1, .int x1), (2, .int x2), (3, .int r_3), (4, .int r_27), (5, .int 0)]) [3, 4, 5, 2, 1, 0] rfl ?_
        exact cl_X2_ownPage_43 l D cI cZ α A hJ X FU x1 x2 r_3 r_27 0 σ_27
    · refine r_iconst X (v := 1) dX2_ownPage_24 (by decide) ?_
      exact r_zreturn X (by decide) dX2_ownPage_25
set_option maxRecDepth 100000 in
set_option maxHeartbeats 4000000 in
theorem cl_X2_reap_24 (l : Launch) (D : va_G) (cI cZ : ClassId) (α : Nat → Nat) (A : Nat → Prop) (hJ : ∀ σ, va_D A ((kwX cI α) σ)) {p : Program} {e : Env} {s : State} {m : MethodId} {args : Array Value} {below : List Frame} {meth : Method} {c : Code} (X : CX p s m args meth c cX2_reap 3 RX2 D (tyA cI cZ) (kwX cI α) A (some .int)) : ∀ (n : Nat) (x1 : Int32) (x2 : Int32) (σ : KS), Cr p l e (rmd 5) s m args below meth c 3 D (kwX cI α) A vI 24 [(0, .ref (α 0)), (1, .int x1), (2, .int x2)] [] σ (f_X2_reap_24 n x1 x2 σ) := by
  intro n
  induction n with
  | zero => intros; exact r_none
  | succ n ih =>
    intro x1 x2 σ
    rw [f_X2_reap_24]
    refine r_iload_n X (j := 2) dX2_reap_24 rfl rfl ?_
    refine r_bipush X (v := 16) dX2_reap_25 (by decide) ?_
    refine r_icmp_ge X (tgt := 78) dX2_reap_27 (by decide) (fun _ => ?_) (fun _ => ?_)
    · refine r_bipush X (v := (-7)) dX2_reap_78 (by decide) ?_
      exact r_ireturn X dX2_reap_80
    · refine r_aload_n X (j := 0) dX2_reap_30 rfl rfl ?_
      refine r_get X (ci := 2) (q0 := 0) (v := .ref (α 12)) inX2 rfl rfl 7 (by decide) rfl fl_X2_41 dX2_reap_31 ?_
      refine r_iload_n X (j := 2) dX2_reap_34 rfl rfl ?_
      refine r_iald X (q0 := 12) (t0 := 0) (kk := 12) rfl rfl dX2_reap_35 ?_
      refine r_iload_n X (j := 1) dX2_reap_36 rfl rfl ?_
      refine r_icmp_ne X (tgt := 72) dX2_reap_37 (by decide) (fun _ => ?_) (fun _ => ?_)
      · refine r_aload_n X (j := 0) dX2_reap_40 rfl rfl ?_
        refine r_get X (ci := 2) (q0 := 0) (v := .ref (α 11)) inX2 rfl rfl 6 (by decide) rfl fl_X2_38 dX2_reap_41 ?_
        refine r_iload_n X (j := 2) dX2_reap_44 rfl rfl ?_
        refine r_iald X (q0 := 11) (t0 := 0) (kk := 11) rfl rfl dX2_reap_45 ?_
        refine r_iconst X (v := 2) dX2_reap_46 (by decide) ?_
        refine r_icmp_ne X (tgt := 72) dX2_reap_47 (by decide) (fun _ => ?_) (fun _ => ?_)
        · refine r_aload_n X (j := 0) dX2_reap_50 rfl rfl ?_
          refine r_iload_n X (j := 2) dX2_reap_51 rfl rfl ?_
          refine r_callVv X (q0 := 0) (ci := 2) (n := 1) (As := [.int x2]) (st := []) (c_X2_removeProcess l D cI cZ α A hJ x2 σ) ml_X2_102 im_X2_removeProcess se_X2_removeProcess ii_X2 co_X2_removeProcess (by decide +kernel) ⟨Nat.le_of_ble_eq_true rfl, Nat.le_of_ble_eq_true rfl⟩ rfl rfl rfl rfl (Nat.le_of_ble_eq_true rfl) dX2_reap_52 (fun r_52 σ_52 hc_52 => ?_)
          refine r_sipush X (v := 256) dX2_reap_55 (by decide) ?_
          refine r_iload_n X (j := 2) dX2_reap_58 rfl rfl ?_
          refine r_imul X dX2_reap_59 ?_
          refine r_aload_n X (j := 0) dX2_reap_60 rfl rfl ?_
          refine r_get X (ci := 2) (q0 := 0) (v := .ref (α 13)) inX2 rfl rfl 8 (by decide) rfl fl_X2_44 dX2_reap_61 ?_
          refine r_iload_n X (j := 2) dX2_reap_64 rfl rfl ?_
          refine r_iald X (q0 := 13) (t0 := 0) (kk := 13) rfl rfl dX2_reap_65 ?_
          refine r_sipush X (v := 255) dX2_reap_66 (by decide) ?_
          refine r_iand X dX2_reap_69 ?_
          refine r_iadd X dX2_reap_70 ?_
          exact r_ireturn X dX2_reap_71
        · refine r_iinc X (j := 2) (v := (x2 + 1)) (lv' := [(2, .int (x2 + 1)), (0, .ref (α 0)), (1, .int x1)]) dX2_reap_72 rfl rfl (by decide) rfl ?_
          refine r_goto X (tgt := 24) dX2_reap_75 (by decide) ?_
          refine r_sub (lv' := [(0, .ref (α 0)), (1, .int x1), (2, .int (x2 + 1))]) [1, 2, 0] rfl ?_
          exact ih x1 (x2 + 1) σ
      · refine r_iinc X (j := 2) (v := (x2 + 1)) (lv' := [(2, .int (x2 + 1)), (0, .ref (α 0)), (1, .int x1)]) dX2_reap_72 rfl rfl (by decide) rfl ?_
        refine r_goto X (tgt := 24) dX2_reap_75 (by decide) ?_
        refine r_sub (lv' := [(0, .ref (α 0)), (1, .int x1), (2, .int (x2 + 1))]) [1, 2, 0] rfl ?_
        exact ih x1 (x2 + 1) σ
set_option maxRecDepth 100000 in
set_option maxHeartbeats 4000000 in
theorem c_X2_reap (l : Launch) (D : va_G) (cI cZ : ClassId) (α : Nat → Nat) (A : Nat → Prop) (hJ : ∀ σ, va_D A ((kwX cI α) σ)) (x1 : Int32) (σ : KS) : Ct l D (tyA cI cZ) (kwX cI α) A yX2_reap cX2_reap 3 (some .int) 5 vI [.ref (α 0), .int x1] σ (m_X2_reap x1 σ) := by
  refine Ct.of (own := RX2) hJ (by decide) rfl (Nat.le_of_ble_eq_true rfl) ?_
  intro p e s m args below meth c X
  refine r_sub (lv' := [(0, .ref (α 0)), (1, .int x1)]) [0, 1] rfl ?_
  unfold m_X2_reap
  refine r_aload_n X (j := 0) dX2_reap_0 rfl rfl ?_
  refine r_iload_n X (j := 1) dX2_reap_1 rfl rfl ?_
  refine r_callVi X (q0 := 0) (ci := 2) (n := 1) (As := [.int x1]) (st := []) (c_X2_isLive l D cI cZ α A hJ x1 σ) ml_X2_60 im_X2_isLive se_X2_isLive ii_X2 co_X2_isLive (by decide +kernel) ⟨Nat.le_of_ble_eq_true rfl, Nat.le_of_ble_eq_true rfl⟩ rfl rfl rfl rfl (Nat.le_of_ble_eq_true rfl) dX2_reap_2 (fun r_2 σ_2 hc_2 => ?_)
  refine r_if_ne X (tgt := 11) dX2_reap_5 (by decide) (fun _ => ?_) (fun _ => ?_)
  · refine r_bipush X (v := (-2)) dX2_reap_8 (by decide) ?_
    exact r_ireturn X dX2_reap_10
  · refine r_aload_n X (j := 0) dX2_reap_11 rfl rfl ?_
    refine r_iload_n X (j := 1) dX2_reap_12 rfl rfl ?_
    refine r_callVi X (q0 := 0) (ci := 2) (n := 1) (As := [.int x1]) (st := []) (c_X2_childrenOf l D cI cZ α A hJ x1 σ_2) ml_X2_105 im_X2_childrenOf se_X2_childrenOf ii_X2 co_X2_childrenOf (by decide +kernel) ⟨Nat.le_of_ble_eq_true rfl, Nat.le_of_ble_eq_true rfl⟩ rfl rfl rfl rfl (Nat.le_of_ble_eq_true rfl) dX2_reap_13 (fun r_13 σ_13 hc_13 => ?_)
    refine r_if_ne X (tgt := 22) dX2_reap_16 (by decide) (fun _ => ?_) (fun _ => ?_)
    · refine r_bipush X (v := (-6)) dX2_reap_19 (by decide) ?_
      exact r_ireturn X dX2_reap_21
    · refine r_iconst X (v := 0) dX2_reap_22 (by decide) ?_
      refine r_istore_n X (lv' := [(2, .int 0), (0, .ref (α 0)), (1, .int x1)]) dX2_reap_23 rfl (by decide) rfl ?_
      refine r_sub (lv' := [(0, .ref (α 0)), (1, .int x1), (2, .int 0)]) [1, 2, 0] rfl ?_
      exact cl_X2_reap_24 l D cI cZ α A hJ X FU x1 0 σ_13
set_option maxRecDepth 100000 in
set_option maxHeartbeats 4000000 in
theorem cl_X2_shrinkTo_9 (l : Launch) (D : va_G) (cI cZ : ClassId) (α : Nat → Nat) (A : Nat → Prop) (hJ : ∀ σ, va_D A ((kwX cI α) σ)) {p : Program} {e : Env} {s : State} {m : MethodId} {args : Array Value} {below : List Frame} {meth : Method} {c : Code} (X : CX p s m args meth c cX2_shrinkTo 4 RX2 D (tyA cI cZ) (kwX cI α) A none) : ∀ (n : Nat) (x1 : Int32) (x2 : Int32) (x3 : Int32) (σ : KS), Cr p l e (rmd 5) s m args below meth c 4 D (kwX cI α) A vV 9 [(0, .ref (α 0)), (1, .int x1), (2, .int x2), (3, .int x3)] [] σ (f_X2_shrinkTo_9 n x1 x2 x3 σ) := by
  intro n
  induction n with
  | zero => intros; exact r_none
  | succ n ih =>
    intro x1 x2 x3 σ
    rw [f_X2_shrinkTo_9]
    refine r_iload_n X (j := 3) dX2_shrinkTo_9 rfl rfl ?_
    refine r_iload_n X (j := 2) dX2_shrinkTo_10 rfl rfl ?_
    refine r_icmp_lt X (tgt := 50) dX2_shrinkTo_11 (by decide) (fun _ => ?_) (fun _ => ?_)
    · exact r_return X dX2_shrinkTo_50
    · refine r_aload_n X (j := 0) dX2_shrinkTo_14 rfl rfl ?_
      refine r_aload_n X (j := 0) dX2_shrinkTo_15 rfl rfl ?_
      refine r_iload_n X (j := 1) dX2_shrinkTo_16 rfl rfl ?_
      refine r_iload_n X (j := 3) dX2_shrinkTo_17 rfl rfl ?_
      refine r_callVi X (q0 := 0) (ci := 2) (n := 2) (As := [.int x1, .int x3]) (st := [.ref (α 0)]) (c_X2_frameOfPage l D cI cZ α A hJ x1 x3 σ) ml_X2_136 im_X2_frameOfPage se_X2_frameOfPage ii_X2 co_X2_frameOfPage (by decide +kernel) ⟨Nat.le_of_ble_eq_true rfl, Nat.le_of_ble_eq_true rfl⟩ rfl rfl rfl rfl (Nat.le_of_ble_eq_true rfl) dX2_shrinkTo_18 (fun r_18 σ_18 hc_18 => ?_)
      refine r_callVv X (q0 := 0) (ci := 2) (n := 1) (As := [.int r_18]) (st := []) (c_X2_dropPageFrame l D cI cZ α A hJ r_18 σ_18) ml_X2_187 im_X2_dropPageFrame se_X2_dropPageFrame ii_X2 co_X2_dropPageFrame (by decide +kernel) ⟨Nat.le_of_ble_eq_true rfl, Nat.le_of_ble_eq_true rfl⟩ rfl rfl rfl rfl (Nat.le_of_ble_eq_true rfl) dX2_shrinkTo_21 (fun r_21 σ_21 hc_21 => ?_)
      refine r_iload_n X (j := 3) dX2_shrinkTo_24 rfl rfl ?_
      refine r_bipush X (v := 16) dX2_shrinkTo_25 (by decide) ?_
      refine r_irem X dX2_shrinkTo_27 (by decide) ?_
      refine r_if_ne X (tgt := 37) dX2_shrinkTo_28 (by decide) (fun _ => ?_) (fun _ => ?_)
      · refine r_aload_n X (j := 0) dX2_shrinkTo_31 rfl rfl ?_
        refine r_iload_n X (j := 1) dX2_shrinkTo_32 rfl rfl ?_
        refine r_iload_n X (j := 3) dX2_shrinkTo_33 rfl rfl ?_
        refine r_callVv X (q0 := 0) (ci := 2) (n := 2) (As := [.int x1, .int x3]) (st := []) (c_X2_dropTable l D cI cZ α A hJ x1 x3 σ_21) ml_X2_178 im_X2_dropTable se_X2_dropTable ii_X2 co_X2_dropTable (by decide +kernel) ⟨Nat.le_of_ble_eq_true rfl, Nat.le_of_ble_eq_true rfl⟩ rfl rfl rfl rfl (Nat.le_of_ble_eq_true rfl) dX2_shrinkTo_34 (fun r_34 σ_34 hc_34 => ?_)
        refine r_aload_n X (j := 0) dX2_shrinkTo_37 rfl rfl ?_
        refine r_get X (ci := 2) (q0 := 0) (v := .ref (α 14)) inX2 rfl rfl 9 (by decide) rfl fl_X2_47 dX2_shrinkTo_38 ?_
        refine r_iload_n X (j := 1) dX2_shrinkTo_41 rfl rfl ?_
        refine r_iload_n X (j := 3) dX2_shrinkTo_42 rfl rfl ?_
        refine r_iast X (q0 := 14) (t0 := 0) (kk := 14) rfl (fun _ => rfl) rfl dX2_shrinkTo_43 ?_
        refine r_iinc X (j := 3) (v := (x3 + (-1))) (lv' := [(3, .int (x3 + (-1))), (0, .ref (α 0)), (1, .int x1), (2, .int x2)]) dX2_shrinkTo_44 rfl rfl (by decide) rfl ?_
        refine r_goto X (tgt := 9) dX2_shrinkTo_47 (by decide) ?_
        refine r_sub (lv' := [(0, .ref (α 0)), (1, .int x1), (2, .int x2), (3, .int (x3 + (-1)))]) [1, 2, 3, 0] rfl ?_
        exact ih x1 x2 (x3 + (-1)) (wr σ_34 14 x1 x3)
      · refine r_aload_n X (j := 0) dX2_shrinkTo_37 rfl rfl ?_
        refine r_get X (ci := 2) (q0 := 0) (v := .ref (α 14)) inX2 rfl rfl 9 (by decide) rfl fl_X2_47 dX2_shrinkTo_38 ?_
        refine r_iload_n X (j := 1) dX2_shrinkTo_41 rfl rfl ?_
        refine r_iload_n X (j := 3) dX2_shrinkTo_42 rfl rfl ?_
        refine r_iast X (q0 := 14) (t0 := 0) (kk := 14) rfl (fun _ => rfl) rfl dX2_shrinkTo_43 ?_
        refine r_iinc X (j := 3) (v := (x3 + (-1))) (lv' := [(3, .int (x3 + (-1))), (0, .ref (α 0)), (1, .int x1), (2, .int x2)]) dX2_shrinkTo_44 rfl rfl (by decide) rfl ?_
        refine r_goto X (tgt := 9) dX2_shrinkTo_47 (by decide) ?_
        refine r_sub (lv' := [(0, .ref (α 0)), (1, .int x1), (2, .int x2), (3, .int (x3 + (-1)))]) [1, 2, 3, 0] rfl ?_
        exact ih x1 x2 (x3 + (-1)) (wr σ_21 14 x1 x3)
set_option maxRecDepth 100000 in
set_option maxHeartbeats 4000000 in
theorem c_X2_shrinkTo (l : Launch) (D : va_G) (cI cZ : ClassId) (α : Nat → Nat) (A : Nat → Prop) (hJ : ∀ σ, va_D A ((kwX cI α) σ)) (x1 x2 : Int32) (σ : KS) : Ct l D (tyA cI cZ) (kwX cI α) A yX2_shrinkTo cX2_shrinkTo 4 none 5 vV [.ref (α 0), .int x1, .int x2] σ (m_X2_shrinkTo x1 x2 σ) := by
  refine Ct.of (own := RX2) hJ (by decide) rfl (Nat.le_of_ble_eq_true rfl) ?_
  intro p e s m args below meth c X
  refine r_sub (lv' := [(0, .ref (α 0)), (1, .int x1), (2, .int x2)]) [0, 1, 2] rfl ?_
  unfold m_X2_shrinkTo
  refine r_aload_n X (j := 0) dX2_shrinkTo_0 rfl rfl ?_
  refine r_get X (ci := 2) (q0 := 0) (v := .ref (α 14)) inX2 rfl rfl 9 (by decide) rfl fl_X2_47 dX2_shrinkTo_1 ?_
  refine r_iload_n X (j := 1) dX2_shrinkTo_4 rfl rfl ?_
  refine r_iald X (q0 := 14) (t0 := 0) (kk := 14) rfl rfl dX2_shrinkTo_5 ?_
  refine r_iconst X (v := 1) dX2_shrinkTo_6 (by decide) ?_
  refine r_isub X dX2_shrinkTo_7 ?_
  refine r_istore_n X (lv' := [(3, .int ((rd σ 14 x1) - 1)), (0, .ref (α 0)), (1, .int x1), (2, .int x2)]) dX2_shrinkTo_8 rfl (by decide) rfl ?_
  refine r_sub (lv' := [(0, .ref (α 0)), (1, .int x1), (2, .int x2), (3, .int ((rd σ 14 x1) - 1))]) [1, 2, 3, 0] rfl ?_
  exact cl_X2_shrinkTo_9 l D cI cZ α A hJ X FU x1 x2 ((rd σ 14 x1) - 1) σ
end
section
set_option maxRecDepth 100000 in
set_option maxHeartbeats 4000000 in
theorem cl_X2_addPage_55 (l : Launch) (D : va_G) (cI cZ : ClassId) (α : Nat → Nat) (A : Nat → Prop) (hJ : ∀ σ, va_D A ((kwX cI α) σ)) {p : Program} {e : Env} {s : State} {m : MethodId} {args : Array Value} {below : List Frame} {meth : Method} {c : Code} (X : CX p s m args meth c cX2_addPage 6 RX2 D (tyA cI cZ) (kwX cI α) A (some .boolean)) : ∀ (n : Nat) (x1 : Int32) (x2 : Int32) (x3 : Int32) (x4 : Int32) (x5 : Int32) (σ : KS), Cr p l e (rmd 6) s m args below meth c 6 D (kwX cI α) A vI 55 [(0, .ref (α 0)), (1, .int x1), (2, .int x2), (3, .int x3), (4, .int x4), (5, .int x5)] [] σ (f_X2_addPage_55 n x1 x2 x3 x4 x5 σ) := by
  intro n
  induction n with
  | zero => intros; exact r_none
  | succ n ih =>
    intro x1 x2 x3 x4 x5 σ
    rw [f_X2_addPage_55]
    refine r_iload X (j := 5) dX2_addPage_55 rfl ?_
    refine r_bipush X (v := 64) dX2_addPage_57 (by decide) ?_
    refine r_icmp_ge X (tgt := 81) dX2_addPage_59 (by decide) (fun _ => ?_) (fun _ => ?_)
    · refine r_aload_n X (j := 0) dX2_addPage_81 rfl rfl ?_
      refine r_aload_n X (j := 0) dX2_addPage_82 rfl rfl ?_
      refine r_iload_n X (j := 1) dX2_addPage_83 rfl rfl ?_
      refine r_iload_n X (j := 2) dX2_addPage_84 rfl rfl ?_
      refine r_callVi X (q0 := 0) (ci := 2) (n := 2) (As := [.int x1, .int x2]) (st := [.ref (α 0)]) (c_X2_pageIndex l D cI cZ α A hJ x1 x2 σ) ml_X2_181 im_X2_pageIndex se_X2_pageIndex ii_X2 co_X2_pageIndex (by decide +kernel) ⟨Nat.le_of_ble_eq_true rfl, Nat.le_of_ble_eq_true rfl⟩ rfl rfl rfl rfl (Nat.le_of_ble_eq_true rfl) dX2_addPage_85 (fun r_85 σ_85 hc_85 => ?_)
      refine r_iload X (j := 4) dX2_addPage_88 rfl ?_
      refine r_callVv X (q0 := 0) (ci := 2) (n := 2) (As := [.int r_85, .int x4]) (st := []) (c_X2_setWord l D cI cZ α A hJ r_85 x4 σ_85) ml_X2_92 im_X2_setWord se_X2_setWord ii_X2 co_X2_setWord (by decide +kernel) ⟨Nat.le_of_ble_eq_true rfl, Nat.le_of_ble_eq_true rfl⟩ rfl rfl rfl rfl (Nat.le_of_ble_eq_true rfl) dX2_addPage_90 (fun r_90 σ_90 hc_90 => ?_)
      refine r_aload_n X (j := 0) dX2_addPage_93 rfl rfl ?_
      refine r_get X (ci := 2) (q0 := 0) (v := .ref (α 14)) inX2 rfl rfl 9 (by decide) rfl fl_X2_47 dX2_addPage_94 ?_
      refine r_iload_n X (j := 1) dX2_addPage_97 rfl rfl ?_
      refine r_iload_n X (j := 2) dX2_addPage_98 rfl rfl ?_
      refine r_iconst X (v := 1) dX2_addPage_99 (by decide) ?_
      refine r_iadd X dX2_addPage_100 ?_
      refine r_iast X (q0 := 14) (t0 := 0) (kk := 14) rfl (fun _ => rfl) rfl dX2_addPage_101 ?_
      refine r_iconst X (v := 1) dX2_addPage_102 (by decide) ?_
      exact r_zreturn X (by decide) dX2_addPage_103
    · refine r_aload_n X (j := 0) dX2_addPage_62 rfl rfl ?_
      refine r_iload X (j := 4) dX2_addPage_63 rfl ?_
      refine r_bipush X (v := 64) dX2_addPage_65 (by decide) ?_
      refine r_imul X dX2_addPage_67 ?_
      refine r_iload X (j := 5) dX2_addPage_68 rfl ?_
      refine r_iadd X dX2_addPage_70 ?_
      refine r_iconst X (v := 0) dX2_addPage_71 (by decide) ?_
      refine r_callVv X (q0 := 0) (ci := 2) (n := 2) (As := [.int ((x4 * 64) + x5), .int 0]) (st := []) (c_X2_setWord l D cI cZ α A hJ ((x4 * 64) + x5) 0 σ) ml_X2_92 im_X2_setWord se_X2_setWord ii_X2 co_X2_setWord (by decide +kernel) ⟨Nat.le_of_ble_eq_true rfl, Nat.le_of_ble_eq_true rfl⟩ rfl rfl rfl rfl (Nat.le_of_ble_eq_true rfl) dX2_addPage_72 (fun r_72 σ_72 hc_72 => ?_)
      refine r_iinc X (j := 5) (v := (x5 + 1)) (lv' := [(5, .int (x5 + 1)), (0, .ref (α 0)), (1, .int x1), (2, .int x2), (3, .int x3), (4, .int x4)]) dX2_addPage_75 rfl rfl (by decide) rfl ?_
      refine r_goto X (tgt := 55) dX2_addPage_78 (by decide) ?_
      refine r_sub (lv' := [(0, .ref (α 0)), (1, .int x1), (2, .int x2), (3, .int x3), (4, .int x4), (5, .int (x5 + 1))]) [1, 2, 3, 4, 5, 0] rfl ?_
      exact ih x1 x2 x3 x4 (x5 + 1) σ_72
set_option maxRecDepth 100000 in
set_option maxHeartbeats 4000000 in
theorem c_X2_addPage (l : Launch) (D : va_G) (cI cZ : ClassId) (α : Nat → Nat) (A : Nat → Prop) (hJ : ∀ σ, va_D A ((kwX cI α) σ)) (x1 x2 : Int32) (σ : KS) : Ct l D (tyA cI cZ) (kwX cI α) A yX2_addPage cX2_addPage 6 (some .boolean) 6 vI [.ref (α 0), .int x1, .int x2] σ (m_X2_addPage x1 x2 σ) := by
  refine Ct.of (own := RX2) hJ (by decide) rfl (Nat.le_of_ble_eq_true rfl) ?_
  intro p e s m args below meth c X
  refine r_sub (lv' := [(0, .ref (α 0)), (1, .int x1), (2, .int x2)]) [0, 1, 2] rfl ?_
  unfold m_X2_addPage
  refine r_iload_n X (j := 2) dX2_addPage_0 rfl rfl ?_
  refine r_bipush X (v := 16) dX2_addPage_1 (by decide) ?_
  refine r_irem X dX2_addPage_3 (by decide) ?_
  refine r_if_ne X (tgt := 11) dX2_addPage_4 (by decide) (fun _ => ?_) (fun _ => ?_)
  · refine r_iconst X (v := 1) dX2_addPage_7 (by decide) ?_
    refine r_goto X (tgt := 12) dX2_addPage_8 (by decide) ?_
    refine r_istore_n X (lv' := [(3, .int 1), (0, .ref (α 0)), (1, .int x1), (2, .int x2)]) dX2_addPage_12 rfl (by decide) rfl ?_
    refine r_iload_n X (j := 0) dX2_addPage_13 rfl rfl ?_
    refine r_f (by decide) (r_if_eq X (tgt := 28) (k1 := none) dX2_addPage_14 (by decide) (fun _ => r_none) (fun _ => ?_))
    refine r_aload_n X (j := 1) dX2_addPage_17 rfl rfl ?_
    refine r_iload_n X (j := 2) dX2_addPage_18 rfl rfl ?_
    refine r_iload_n X (j := 3) dX2_addPage_19 rfl rfl ?_
    refine r_callVi X (q0 := 0) (ci := 2) (n := 2) (As := [.int x1, .int x2]) (st := []) (c_X2_addTable l D cI cZ α A hJ x1 x2 σ) ml_X2_175 im_X2_addTable se_X2_addTable ii_X2 co_X2_addTable (by decide +kernel) ⟨Nat.le_of_ble_eq_true rfl, Nat.le_of_ble_eq_true rfl⟩ rfl rfl rfl rfl (Nat.le_of_ble_eq_true rfl) dX2_addPage_20 (fun r_20 σ_20 hc_20 => ?_)
    refine r_if_ne X (tgt := 28) dX2_addPage_23 (by decide) (fun _ => ?_) (fun _ => ?_)
    · refine r_iconst X (v := 0) dX2_addPage_26 (by decide) ?_
      exact r_zreturn X (by decide) dX2_addPage_27
    · refine r_aload_n X (j := 1) dX2_addPage_28 rfl rfl ?_
      refine r_callVi X (q0 := 0) (ci := 2) (n := 0) (As := []) (st := []) (c_X2_takePageFrame l D cI cZ α A hJ σ_20) ml_X2_184 im_X2_takePageFrame se_X2_takePageFrame ii_X2 co_X2_takePageFrame (by decide +kernel) ⟨Nat.le_of_ble_eq_true rfl, Nat.le_of_ble_eq_true rfl⟩ rfl rfl rfl rfl (Nat.le_of_ble_eq_true rfl) dX2_addPage_29 (fun r_29 σ_29 hc_29 => ?_)
      refine r_istore X (lv' := [(4, .int r_29), (3, .int 1), (0, .ref (α 0)), (1, .int x1), (2, .int x2)]) dX2_addPage_32 (by decide) rfl ?_
      refine r_iload X (j := 0) dX2_addPage_34 rfl ?_
      refine r_iconst X (v := (-1)) dX2_addPage_36 (by decide) ?_
      refine r_icmp_ne X (tgt := 52) dX2_addPage_37 (by decide) (fun _ => ?_) (fun _ => ?_)
      · refine r_iload_n X (j := 1) dX2_addPage_40 rfl rfl ?_
        refine r_f (by decide) (r_if_eq X (tgt := 50) (k1 := none) dX2_addPage_41 (by decide) (fun _ => r_none) (fun _ => ?_))
        refine r_aload_n X (j := 2) dX2_addPage_44 rfl rfl ?_
        refine r_iload_n X (j := 3) dX2_addPage_45 rfl rfl ?_
        refine r_iload_n X (j := 4) dX2_addPage_46 rfl rfl ?_
        refine r_callVv X (q0 := 0) (ci := 2) (n := 2) (As := [.int x1, .int x2]) (st := []) (c_X2_dropTable l D cI cZ α A hJ x1 x2 σ_29) ml_X2_178 im_X2_dropTable se_X2_dropTable ii_X2 co_X2_dropTable (by decide +kernel) ⟨Nat.le_of_ble_eq_true rfl, Nat.le_of_ble_eq_true rfl⟩ rfl rfl rfl rfl (Nat.le_of_ble_eq_true rfl) dX2_addPage_47 (fun r_47 σ_47 hc_47 => ?_)
        refine r_iconst X (v := 0) dX2_addPage_50 (by decide) ?_
        exact r_zreturn X (by decide) dX2_addPage_51
      · refine r_iconst X (v := 0) dX2_addPage_52 (by decide) ?_
        refine r_istore X (lv' := [(5, .int 0), (4, .int r_29), (3, .int 1), (0, .ref (α 0)), (1, .int x1), (2, .int x2)]) dX2_addPage_53 (by decide) rfl ?_
        refine r_sub (lv' := [(0, .ref (α 0)), (1, .int x1), (2, .int x2), (3, .int 1), (4, .int r_29), (5, .int 0)]) [3, 4, 5, 2, 1, 0] rfl ?_
        exact cl_X2_addPage_55 l D cI cZ α A hJ X FU x1 x2 1 r_29 0 σ_29
  · refine r_iconst X (v := 0) dX2_addPage_11 (by decide) ?_
    refine r_istore_n X (lv' := [(3, .int 0), (0, .ref (α 0)), (1, .int x1), (2, .int x2)]) dX2_addPage_12 rfl (by decide) rfl ?_
    refine r_iload_n X (j := 0) dX2_addPage_13 rfl rfl ?_
    refine r_t (by decide) (r_if_eq X (tgt := 28) (k2 := none) dX2_addPage_14 (by decide) (fun _ => ?_) (fun _ => r_none))
    refine r_aload_n X (j := 1) dX2_addPage_28 rfl rfl ?_
    refine r_callVi X (q0 := 0) (ci := 2) (n := 0) (As := []) (st := []) (c_X2_takePageFrame l D cI cZ α A hJ σ) ml_X2_184 im_X2_takePageFrame se_X2_takePageFrame ii_X2 co_X2_takePageFrame (by decide +kernel) ⟨Nat.le_of_ble_eq_true rfl, Nat.le_of_ble_eq_true rfl⟩ rfl rfl rfl rfl (Nat.le_of_ble_eq_true rfl) dX2_addPage_29 (fun r_29 σ_29 hc_29 => ?_)
    refine r_istore X (lv' := [(4, .int r_29), (3, .int 0), (0, .ref (α 0)), (1, .int x1), (2, .int x2)]) dX2_addPage_32 (by decide) rfl ?_
    refine r_iload X (j := 0) dX2_addPage_34 rfl ?_
    refine r_iconst X (v := (-1)) dX2_addPage_36 (by decide) ?_
    refine r_icmp_ne X (tgt := 52) dX2_addPage_37 (by decide) (fun _ => ?_) (fun _ => ?_)
    · refine r_iload_n X (j := 1) dX2_addPage_40 rfl rfl ?_
      refine r_t (by decide) (r_if_eq X (tgt := 50) (k2 := none) dX2_addPage_41 (by decide) (fun _ => ?_) (fun _ => r_none))
      refine r_iconst X (v := 0) dX2_addPage_50 (by decide) ?_
      exact r_zreturn X (by decide) dX2_addPage_51
    · refine r_iconst X (v := 0) dX2_addPage_52 (by decide) ?_
      refine r_istore X (lv' := [(5, .int 0), (4, .int r_29), (3, .int 0), (0, .ref (α 0)), (1, .int x1), (2, .int x2)]) dX2_addPage_53 (by decide) rfl ?_
      refine r_sub (lv' := [(0, .ref (α 0)), (1, .int x1), (2, .int x2), (3, .int 0), (4, .int r_29), (5, .int 0)]) [3, 4, 5, 2, 1, 0] rfl ?_
      exact cl_X2_addPage_55 l D cI cZ α A hJ X FU x1 x2 0 r_29 0 σ_29
set_option maxRecDepth 100000 in
set_option maxHeartbeats 4000000 in
theorem c_X2_exit (l : Launch) (D : va_G) (cI cZ : ClassId) (α : Nat → Nat) (A : Nat → Prop) (hJ : ∀ σ, va_D A ((kwX cI α) σ)) (x1 x2 : Int32) (σ : KS) : Ct l D (tyA cI cZ) (kwX cI α) A yX2_exit cX2_exit 3 (some .int) 6 vI [.ref (α 0), .int x1, .int x2] σ (m_X2_exit x1 x2 σ) := by
  refine Ct.of (own := RX2) hJ (by decide) rfl (Nat.le_of_ble_eq_true rfl) ?_
  intro p e s m args below meth c X
  refine r_sub (lv' := [(0, .ref (α 0)), (1, .int x1), (2, .int x2)]) [0, 1, 2] rfl ?_
  unfold m_X2_exit
  refine r_aload_n X (j := 0) dX2_exit_0 rfl rfl ?_
  refine r_iload_n X (j := 1) dX2_exit_1 rfl rfl ?_
  refine r_callVi X (q0 := 0) (ci := 2) (n := 1) (As := [.int x1]) (st := []) (c_X2_isLive l D cI cZ α A hJ x1 σ) ml_X2_60 im_X2_isLive se_X2_isLive ii_X2 co_X2_isLive (by decide +kernel) ⟨Nat.le_of_ble_eq_true rfl, Nat.le_of_ble_eq_true rfl⟩ rfl rfl rfl rfl (Nat.le_of_ble_eq_true rfl) dX2_exit_2 (fun r_2 σ_2 hc_2 => ?_)
  refine r_if_ne X (tgt := 11) dX2_exit_5 (by decide) (fun _ => ?_) (fun _ => ?_)
  · refine r_bipush X (v := (-2)) dX2_exit_8 (by decide) ?_
    exact r_ireturn X dX2_exit_10
  · refine r_aload_n X (j := 0) dX2_exit_11 rfl rfl ?_
    refine r_iload_n X (j := 1) dX2_exit_12 rfl rfl ?_
    refine r_callVv X (q0 := 0) (ci := 2) (n := 1) (As := [.int x1]) (st := []) (c_X2_leaveRow l D cI cZ α A hJ x1 σ_2) ml_X2_95 im_X2_leaveRow se_X2_leaveRow ii_X2 co_X2_leaveRow (by decide +kernel) ⟨Nat.le_of_ble_eq_true rfl, Nat.le_of_ble_eq_true rfl⟩ rfl rfl rfl rfl (Nat.le_of_ble_eq_true rfl) dX2_exit_13 (fun r_13 σ_13 hc_13 => ?_)
    refine r_aload_n X (j := 0) dX2_exit_16 rfl rfl ?_
    refine r_iload_n X (j := 1) dX2_exit_17 rfl rfl ?_
    refine r_iconst X (v := 0) dX2_exit_18 (by decide) ?_
    refine r_callVv X (q0 := 0) (ci := 2) (n := 2) (As := [.int x1, .int 0]) (st := []) (c_X2_shrinkTo l D cI cZ α A hJ x1 0 σ_13) ml_X2_68 im_X2_shrinkTo se_X2_shrinkTo ii_X2 co_X2_shrinkTo (by decide +kernel) ⟨Nat.le_of_ble_eq_true rfl, Nat.le_of_ble_eq_true rfl⟩ rfl rfl rfl rfl (Nat.le_of_ble_eq_true rfl) dX2_exit_19 (fun r_19 σ_19 hc_19 => ?_)
    refine r_aload_n X (j := 0) dX2_exit_22 rfl rfl ?_
    refine r_iload_n X (j := 1) dX2_exit_23 rfl rfl ?_
    refine r_callVv X (q0 := 0) (ci := 2) (n := 1) (As := [.int x1]) (st := []) (c_X2_leaveChildren l D cI cZ α A hJ x1 σ_19) ml_X2_99 im_X2_leaveChildren se_X2_leaveChildren ii_X2 co_X2_leaveChildren (by decide +kernel) ⟨Nat.le_of_ble_eq_true rfl, Nat.le_of_ble_eq_true rfl⟩ rfl rfl rfl rfl (Nat.le_of_ble_eq_true rfl) dX2_exit_24 (fun r_24 σ_24 hc_24 => ?_)
    refine r_aload_n X (j := 0) dX2_exit_27 rfl rfl ?_
    refine r_get X (ci := 2) (q0 := 0) (v := .ref (α 12)) inX2 rfl rfl 7 (by decide) rfl fl_X2_41 dX2_exit_28 ?_
    refine r_iload_n X (j := 1) dX2_exit_31 rfl rfl ?_
    refine r_iald X (q0 := 12) (t0 := 0) (kk := 12) rfl rfl dX2_exit_32 ?_
    refine r_iconst X (v := (-1)) dX2_exit_33 (by decide) ?_
    refine r_icmp_ne X (tgt := 45) dX2_exit_34 (by decide) (fun _ => ?_) (fun _ => ?_)
    · refine r_aload_n X (j := 0) dX2_exit_37 rfl rfl ?_
      refine r_iload_n X (j := 1) dX2_exit_38 rfl rfl ?_
      refine r_callVv X (q0 := 0) (ci := 2) (n := 1) (As := [.int x1]) (st := []) (c_X2_removeProcess l D cI cZ α A hJ x1 σ_24) ml_X2_102 im_X2_removeProcess se_X2_removeProcess ii_X2 co_X2_removeProcess (by decide +kernel) ⟨Nat.le_of_ble_eq_true rfl, Nat.le_of_ble_eq_true rfl⟩ rfl rfl rfl rfl (Nat.le_of_ble_eq_true rfl) dX2_exit_39 (fun r_39 σ_39 hc_39 => ?_)
      refine r_goto X (tgt := 59) dX2_exit_42 (by decide) ?_
      refine r_iconst X (v := 0) dX2_exit_59 (by decide) ?_
      exact r_ireturn X dX2_exit_60
    · refine r_aload_n X (j := 0) dX2_exit_45 rfl rfl ?_
      refine r_get X (ci := 2) (q0 := 0) (v := .ref (α 11)) inX2 rfl rfl 6 (by decide) rfl fl_X2_38 dX2_exit_46 ?_
      refine r_iload_n X (j := 1) dX2_exit_49 rfl rfl ?_
      refine r_iconst X (v := 2) dX2_exit_50 (by decide) ?_
      refine r_iast X (q0 := 11) (t0 := 0) (kk := 11) rfl (fun _ => rfl) rfl dX2_exit_51 ?_
      refine r_aload_n X (j := 0) dX2_exit_52 rfl rfl ?_
      refine r_get X (ci := 2) (q0 := 0) (v := .ref (α 13)) inX2 rfl rfl 8 (by decide) rfl fl_X2_44 dX2_exit_53 ?_
      refine r_iload_n X (j := 1) dX2_exit_56 rfl rfl ?_
      refine r_iload_n X (j := 2) dX2_exit_57 rfl rfl ?_
      refine r_iast X (q0 := 13) (t0 := 0) (kk := 13) rfl (fun _ => rfl) rfl dX2_exit_58 ?_
      refine r_iconst X (v := 0) dX2_exit_59 (by decide) ?_
      exact r_ireturn X dX2_exit_60
set_option maxRecDepth 100000 in
set_option maxHeartbeats 4000000 in
theorem c_X2_store (l : Launch) (D : va_G) (cI cZ : ClassId) (α : Nat → Nat) (A : Nat → Prop) (hJ : ∀ σ, va_D A ((kwX cI α) σ)) (x1 x2 x3 : Int32) (σ : KS) : Ct l D (tyA cI cZ) (kwX cI α) A yX2_store cX2_store 4 (some .int) 6 vI [.ref (α 0), .int x1, .int x2, .int x3] σ (m_X2_store x1 x2 x3 σ) := by
  refine Ct.of (own := RX2) hJ (by decide) rfl (Nat.le_of_ble_eq_true rfl) ?_
  intro p e s m args below meth c X
  refine r_sub (lv' := [(0, .ref (α 0)), (1, .int x1), (2, .int x2), (3, .int x3)]) [0, 1, 2, 3] rfl ?_
  unfold m_X2_store
  refine r_aload_n X (j := 0) dX2_store_0 rfl rfl ?_
  refine r_iload_n X (j := 1) dX2_store_1 rfl rfl ?_
  refine r_callVi X (q0 := 0) (ci := 2) (n := 1) (As := [.int x1]) (st := []) (c_X2_isLive l D cI cZ α A hJ x1 σ) ml_X2_60 im_X2_isLive se_X2_isLive ii_X2 co_X2_isLive (by decide +kernel) ⟨Nat.le_of_ble_eq_true rfl, Nat.le_of_ble_eq_true rfl⟩ rfl rfl rfl rfl (Nat.le_of_ble_eq_true rfl) dX2_store_2 (fun r_2 σ_2 hc_2 => ?_)
  refine r_if_ne X (tgt := 11) dX2_store_5 (by decide) (fun _ => ?_) (fun _ => ?_)
  · refine r_bipush X (v := (-2)) dX2_store_8 (by decide) ?_
    exact r_ireturn X dX2_store_10
  · refine r_aload_n X (j := 0) dX2_store_11 rfl rfl ?_
    refine r_iload_n X (j := 1) dX2_store_12 rfl rfl ?_
    refine r_iload_n X (j := 2) dX2_store_13 rfl rfl ?_
    refine r_callSi X (n := 1) (As := [.int x2]) (st := [.int x1, .ref (α 0)]) (c_X2_pageOf l D cI cZ α A hJ x2 σ_2) ml_X2_76 sm_X2_pageOf ii_X2 co_X2_pageOf (by decide +kernel) ⟨Nat.le_of_ble_eq_true rfl, Nat.le_of_ble_eq_true rfl⟩ rfl rfl (Nat.le_of_ble_eq_true rfl) dX2_store_14 (fun r_14 σ_14 hc_14 => ?_)
    refine r_callVi X (q0 := 0) (ci := 2) (n := 2) (As := [.int x1, .int r_14]) (st := []) (c_X2_hasPage l D cI cZ α A hJ x1 r_14 σ_14) ml_X2_79 im_X2_hasPage se_X2_hasPage ii_X2 co_X2_hasPage (by decide +kernel) ⟨Nat.le_of_ble_eq_true rfl, Nat.le_of_ble_eq_true rfl⟩ rfl rfl rfl rfl (Nat.le_of_ble_eq_true rfl) dX2_store_17 (fun r_17 σ_17 hc_17 => ?_)
    refine r_if_ne X (tgt := 26) dX2_store_20 (by decide) (fun _ => ?_) (fun _ => ?_)
    · refine r_bipush X (v := (-5)) dX2_store_23 (by decide) ?_
      exact r_ireturn X dX2_store_25
    · refine r_aload_n X (j := 0) dX2_store_26 rfl rfl ?_
      refine r_iload_n X (j := 1) dX2_store_27 rfl rfl ?_
      refine r_iload_n X (j := 2) dX2_store_28 rfl rfl ?_
      refine r_callSi X (n := 1) (As := [.int x2]) (st := [.int x1, .ref (α 0)]) (c_X2_pageOf l D cI cZ α A hJ x2 σ_17) ml_X2_76 sm_X2_pageOf ii_X2 co_X2_pageOf (by decide +kernel) ⟨Nat.le_of_ble_eq_true rfl, Nat.le_of_ble_eq_true rfl⟩ rfl rfl (Nat.le_of_ble_eq_true rfl) dX2_store_29 (fun r_29 σ_29 hc_29 => ?_)
      refine r_callVi X (q0 := 0) (ci := 2) (n := 2) (As := [.int x1, .int r_29]) (st := []) (c_X2_ownPage l D cI cZ α A hJ x1 r_29 σ_29) ml_X2_89 im_X2_ownPage se_X2_ownPage ii_X2 co_X2_ownPage (by decide +kernel) ⟨Nat.le_of_ble_eq_true rfl, Nat.le_of_ble_eq_true rfl⟩ rfl rfl rfl rfl (Nat.le_of_ble_eq_true rfl) dX2_store_32 (fun r_32 σ_32 hc_32 => ?_)
      refine r_if_ne X (tgt := 43) dX2_store_35 (by decide) (fun _ => ?_) (fun _ => ?_)
      · refine r_aload_n X (j := 0) dX2_store_38 rfl rfl ?_
        refine r_callVi X (q0 := 0) (ci := 2) (n := 0) (As := []) (st := []) (c_X2_refuse l D cI cZ α A hJ σ_32) ml_X2_72 im_X2_refuse se_X2_refuse ii_X2 co_X2_refuse (by decide +kernel) ⟨Nat.le_of_ble_eq_true rfl, Nat.le_of_ble_eq_true rfl⟩ rfl rfl rfl rfl (Nat.le_of_ble_eq_true rfl) dX2_store_39 (fun r_39 σ_39 hc_39 => ?_)
        exact r_ireturn X dX2_store_42
      · refine r_aload_n X (j := 0) dX2_store_43 rfl rfl ?_
        refine r_aload_n X (j := 0) dX2_store_44 rfl rfl ?_
        refine r_iload_n X (j := 1) dX2_store_45 rfl rfl ?_
        refine r_iload_n X (j := 2) dX2_store_46 rfl rfl ?_
        refine r_callVi X (q0 := 0) (ci := 2) (n := 2) (As := [.int x1, .int x2]) (st := [.ref (α 0)]) (c_X2_wordIndex l D cI cZ α A hJ x1 x2 σ_32) ml_X2_82 im_X2_wordIndex se_X2_wordIndex ii_X2 co_X2_wordIndex (by decide +kernel) ⟨Nat.le_of_ble_eq_true rfl, Nat.le_of_ble_eq_true rfl⟩ rfl rfl rfl rfl (Nat.le_of_ble_eq_true rfl) dX2_store_47 (fun r_47 σ_47 hc_47 => ?_)
        refine r_iload_n X (j := 3) dX2_store_50 rfl rfl ?_
        refine r_callVv X (q0 := 0) (ci := 2) (n := 2) (As := [.int r_47, .int x3]) (st := []) (c_X2_setWord l D cI cZ α A hJ r_47 x3 σ_47) ml_X2_92 im_X2_setWord se_X2_setWord ii_X2 co_X2_setWord (by decide +kernel) ⟨Nat.le_of_ble_eq_true rfl, Nat.le_of_ble_eq_true rfl⟩ rfl rfl rfl rfl (Nat.le_of_ble_eq_true rfl) dX2_store_51 (fun r_51 σ_51 hc_51 => ?_)
        refine r_iconst X (v := 0) dX2_store_54 (by decide) ?_
        exact r_ireturn X dX2_store_55
set_option maxRecDepth 100000 in
set_option maxHeartbeats 4000000 in
theorem cl_X2_takeTables_22 (l : Launch) (D : va_G) (cI cZ : ClassId) (α : Nat → Nat) (A : Nat → Prop) (hJ : ∀ σ, va_D A ((kwX cI α) σ)) {p : Program} {e : Env} {s : State} {m : MethodId} {args : Array Value} {below : List Frame} {meth : Method} {c : Code} (X : CX p s m args meth c cX2_takeTables 5 RX2 D (tyA cI cZ) (kwX cI α) A (some .boolean)) : ∀ (n : Nat) (x1 : Int32) (x2 : Int32) (x3 : Int32) (x4 : Int32) (σ : KS), Cr p l e (rmd 6) s m args below meth c 5 D (kwX cI α) A vI 22 [(0, .ref (α 0)), (1, .int x1), (2, .int x2), (3, .int x3), (4, .int x4)] [] σ (f_X2_takeTables_22 n x1 x2 x3 x4 σ) := by
  intro n
  induction n with
  | zero => intros; exact r_none
  | succ n ih =>
    intro x1 x2 x3 x4 σ
    rw [f_X2_takeTables_22]
    refine r_iload X (j := 4) dX2_takeTables_22 rfl ?_
    refine r_if_lt X (tgt := 40) dX2_takeTables_24 (by decide) (fun _ => ?_) (fun _ => ?_)
    · refine r_iconst X (v := 0) dX2_takeTables_40 (by decide) ?_
      exact r_zreturn X (by decide) dX2_takeTables_41
    · refine r_aload_n X (j := 0) dX2_takeTables_27 rfl rfl ?_
      refine r_iload_n X (j := 1) dX2_takeTables_28 rfl rfl ?_
      refine r_iload X (j := 4) dX2_takeTables_29 rfl ?_
      refine r_callVv X (q0 := 0) (ci := 2) (n := 2) (As := [.int x1, .int x4]) (st := []) (c_X2_dropTable l D cI cZ α A hJ x1 x4 σ) ml_X2_178 im_X2_dropTable se_X2_dropTable ii_X2 co_X2_dropTable (by decide +kernel) ⟨Nat.le_of_ble_eq_true rfl, Nat.le_of_ble_eq_true rfl⟩ rfl rfl rfl rfl (Nat.le_of_ble_eq_true rfl) dX2_takeTables_31 (fun r_31 σ_31 hc_31 => ?_)
      refine r_iinc X (j := 4) (v := (x4 + (-16))) (lv' := [(4, .int (x4 + (-16))), (0, .ref (α 0)), (1, .int x1), (2, .int x2), (3, .int x3)]) dX2_takeTables_34 rfl rfl (by decide) rfl ?_
      refine r_goto X (tgt := 22) dX2_takeTables_37 (by decide) ?_
      refine r_sub (lv' := [(0, .ref (α 0)), (1, .int x1), (2, .int x2), (3, .int x3), (4, .int (x4 + (-16)))]) [1, 2, 3, 4, 0] rfl ?_
      exact ih x1 x2 x3 (x4 + (-16)) σ_31
set_option maxRecDepth 100000 in
set_option maxHeartbeats 4000000 in
theorem cl_X2_takeTables_2 (l : Launch) (D : va_G) (cI cZ : ClassId) (α : Nat → Nat) (A : Nat → Prop) (hJ : ∀ σ, va_D A ((kwX cI α) σ)) {p : Program} {e : Env} {s : State} {m : MethodId} {args : Array Value} {below : List Frame} {meth : Method} {c : Code} (X : CX p s m args meth c cX2_takeTables 5 RX2 D (tyA cI cZ) (kwX cI α) A (some .boolean)) : ∀ (n : Nat) (x1 : Int32) (x2 : Int32) (x3 : Int32) (σ : KS), Cr p l e (rmd 6) s m args below meth c 5 D (kwX cI α) A vI 2 [(0, .ref (α 0)), (1, .int x1), (2, .int x2), (3, .int x3)] [] σ (f_X2_takeTables_2 n x1 x2 x3 σ) := by
  intro n
  induction n with
  | zero => intros; exact r_none
  | succ n ih =>
    intro x1 x2 x3 σ
    rw [f_X2_takeTables_2]
    refine r_iload_n X (j := 3) dX2_takeTables_2 rfl rfl ?_
    refine r_iload_n X (j := 2) dX2_takeTables_3 rfl rfl ?_
    refine r_icmp_ge X (tgt := 48) dX2_takeTables_4 (by decide) (fun _ => ?_) (fun _ => ?_)
    · refine r_iconst X (v := 1) dX2_takeTables_48 (by decide) ?_
      exact r_zreturn X (by decide) dX2_takeTables_49
    · refine r_aload_n X (j := 0) dX2_takeTables_7 rfl rfl ?_
      refine r_iload_n X (j := 1) dX2_takeTables_8 rfl rfl ?_
      refine r_iload_n X (j := 3) dX2_takeTables_9 rfl rfl ?_
      refine r_callVi X (q0 := 0) (ci := 2) (n := 2) (As := [.int x1, .int x3]) (st := []) (c_X2_addTable l D cI cZ α A hJ x1 x3 σ) ml_X2_175 im_X2_addTable se_X2_addTable ii_X2 co_X2_addTable (by decide +kernel) ⟨Nat.le_of_ble_eq_true rfl, Nat.le_of_ble_eq_true rfl⟩ rfl rfl rfl rfl (Nat.le_of_ble_eq_true rfl) dX2_takeTables_10 (fun r_10 σ_10 hc_10 => ?_)
      refine r_if_ne X (tgt := 42) dX2_takeTables_13 (by decide) (fun _ => ?_) (fun _ => ?_)
      · refine r_iload_n X (j := 3) dX2_takeTables_16 rfl rfl ?_
        refine r_bipush X (v := 16) dX2_takeTables_17 (by decide) ?_
        refine r_isub X dX2_takeTables_19 ?_
        refine r_istore X (lv' := [(4, .int (x3 - 16)), (0, .ref (α 0)), (1, .int x1), (2, .int x2), (3, .int x3)]) dX2_takeTables_20 (by decide) rfl ?_
        refine r_sub (lv' := [(0, .ref (α 0)), (1, .int x1), (2, .int x2), (3, .int x3), (4, .int (x3 - 16))]) [1, 2, 3, 4, 0] rfl ?_
        exact cl_X2_takeTables_22 l D cI cZ α A hJ X FU x1 x2 x3 (x3 - 16) σ_10
      · refine r_iinc X (j := 3) (v := (x3 + 16)) (lv' := [(3, .int (x3 + 16)), (0, .ref (α 0)), (1, .int x1), (2, .int x2)]) dX2_takeTables_42 rfl rfl (by decide) rfl ?_
        refine r_goto X (tgt := 2) dX2_takeTables_45 (by decide) ?_
        refine r_sub (lv' := [(0, .ref (α 0)), (1, .int x1), (2, .int x2), (3, .int (x3 + 16))]) [1, 2, 3, 0] rfl ?_
        exact ih x1 x2 (x3 + 16) σ_10
set_option maxRecDepth 100000 in
set_option maxHeartbeats 4000000 in
theorem c_X2_takeTables (l : Launch) (D : va_G) (cI cZ : ClassId) (α : Nat → Nat) (A : Nat → Prop) (hJ : ∀ σ, va_D A ((kwX cI α) σ)) (x1 x2 : Int32) (σ : KS) : Ct l D (tyA cI cZ) (kwX cI α) A yX2_takeTables cX2_takeTables 5 (some .boolean) 6 vI [.ref (α 0), .int x1, .int x2] σ (m_X2_takeTables x1 x2 σ) := by
  refine Ct.of (own := RX2) hJ (by decide) rfl (Nat.le_of_ble_eq_true rfl) ?_
  intro p e s m args below meth c X
  refine r_sub (lv' := [(0, .ref (α 0)), (1, .int x1), (2, .int x2)]) [0, 1, 2] rfl ?_
  unfold m_X2_takeTables
  refine r_iconst X (v := 0) dX2_takeTables_0 (by decide) ?_
  refine r_istore_n X (lv' := [(3, .int 0), (0, .ref (α 0)), (1, .int x1), (2, .int x2)]) dX2_takeTables_1 rfl (by decide) rfl ?_
  refine r_sub (lv' := [(0, .ref (α 0)), (1, .int x1), (2, .int x2), (3, .int 0)]) [1, 2, 3, 0] rfl ?_
  exact cl_X2_takeTables_2 l D cI cZ α A hJ X FU x1 x2 0 σ
set_option maxRecDepth 100000 in
set_option maxHeartbeats 4000000 in
theorem cl_X2_grow_44 (l : Launch) (D : va_G) (cI cZ : ClassId) (α : Nat → Nat) (A : Nat → Prop) (hJ : ∀ σ, va_D A ((kwX cI α) σ)) {p : Program} {e : Env} {s : State} {m : MethodId} {args : Array Value} {below : List Frame} {meth : Method} {c : Code} (X : CX p s m args meth c cX2_grow 6 RX2 D (tyA cI cZ) (kwX cI α) A (some .int)) : ∀ (n : Nat) (x1 : Int32) (x2 : Int32) (x3 : Int32) (x4 : Int32) (x5 : Int32) (σ : KS), Cr p l e (rmd 7) s m args below meth c 6 D (kwX cI α) A vI 44 [(0, .ref (α 0)), (1, .int x1), (2, .int x2), (3, .int x3), (4, .int x4), (5, .int x5)] [] σ (f_X2_grow_44 n x1 x2 x3 x4 x5 σ) := by
  intro n
  induction n with
  | zero => intros; exact r_none
  | succ n ih =>
    intro x1 x2 x3 x4 x5 σ
    rw [f_X2_grow_44]
    refine r_iload X (j := 5) dX2_grow_44 rfl ?_
    refine r_iload X (j := 4) dX2_grow_46 rfl ?_
    refine r_icmp_ge X (tgt := 78) dX2_grow_48 (by decide) (fun _ => ?_) (fun _ => ?_)
    · refine r_aload_n X (j := 0) dX2_grow_78 rfl rfl ?_
      refine r_iload_n X (j := 1) dX2_grow_79 rfl rfl ?_
      refine r_iload X (j := 4) dX2_grow_80 rfl ?_
      refine r_callVv X (q0 := 0) (ci := 2) (n := 2) (As := [.int x1, .int x4]) (st := []) (c_X2_shrinkTo l D cI cZ α A hJ x1 x4 σ) ml_X2_68 im_X2_shrinkTo se_X2_shrinkTo ii_X2 co_X2_shrinkTo (by decide +kernel) ⟨Nat.le_of_ble_eq_true rfl, Nat.le_of_ble_eq_true rfl⟩ rfl rfl rfl rfl (Nat.le_of_ble_eq_true rfl) dX2_grow_82 (fun r_82 σ_82 hc_82 => ?_)
      refine r_iload_n X (j := 3) dX2_grow_85 rfl rfl ?_
      exact r_ireturn X dX2_grow_86
    · refine r_aload_n X (j := 0) dX2_grow_51 rfl rfl ?_
      refine r_iload_n X (j := 1) dX2_grow_52 rfl rfl ?_
      refine r_iload X (j := 5) dX2_grow_53 rfl ?_
      refine r_callVi X (q0 := 0) (ci := 2) (n := 2) (As := [.int x1, .int x5]) (st := []) (c_X2_addPage l D cI cZ α A hJ x1 x5 σ) ml_X2_64 im_X2_addPage se_X2_addPage ii_X2 co_X2_addPage (by decide +kernel) ⟨Nat.le_of_ble_eq_true rfl, Nat.le_of_ble_eq_true rfl⟩ rfl rfl rfl rfl (Nat.le_of_ble_eq_true rfl) dX2_grow_55 (fun r_55 σ_55 hc_55 => ?_)
      refine r_if_ne X (tgt := 72) dX2_grow_58 (by decide) (fun _ => ?_) (fun _ => ?_)
      · refine r_aload_n X (j := 0) dX2_grow_61 rfl rfl ?_
        refine r_iload_n X (j := 1) dX2_grow_62 rfl rfl ?_
        refine r_iload_n X (j := 3) dX2_grow_63 rfl rfl ?_
        refine r_callVv X (q0 := 0) (ci := 2) (n := 2) (As := [.int x1, .int x3]) (st := []) (c_X2_shrinkTo l D cI cZ α A hJ x1 x3 σ_55) ml_X2_68 im_X2_shrinkTo se_X2_shrinkTo ii_X2 co_X2_shrinkTo (by decide +kernel) ⟨Nat.le_of_ble_eq_true rfl, Nat.le_of_ble_eq_true rfl⟩ rfl rfl rfl rfl (Nat.le_of_ble_eq_true rfl) dX2_grow_64 (fun r_64 σ_64 hc_64 => ?_)
        refine r_aload_n X (j := 0) dX2_grow_67 rfl rfl ?_
        refine r_callVi X (q0 := 0) (ci := 2) (n := 0) (As := []) (st := []) (c_X2_refuse l D cI cZ α A hJ σ_64) ml_X2_72 im_X2_refuse se_X2_refuse ii_X2 co_X2_refuse (by decide +kernel) ⟨Nat.le_of_ble_eq_true rfl, Nat.le_of_ble_eq_true rfl⟩ rfl rfl rfl rfl (Nat.le_of_ble_eq_true rfl) dX2_grow_68 (fun r_68 σ_68 hc_68 => ?_)
        exact r_ireturn X dX2_grow_71
      · refine r_iinc X (j := 5) (v := (x5 + 1)) (lv' := [(5, .int (x5 + 1)), (0, .ref (α 0)), (1, .int x1), (2, .int x2), (3, .int x3), (4, .int x4)]) dX2_grow_72 rfl rfl (by decide) rfl ?_
        refine r_goto X (tgt := 44) dX2_grow_75 (by decide) ?_
        refine r_sub (lv' := [(0, .ref (α 0)), (1, .int x1), (2, .int x2), (3, .int x3), (4, .int x4), (5, .int (x5 + 1))]) [1, 2, 3, 4, 5, 0] rfl ?_
        exact ih x1 x2 x3 x4 (x5 + 1) σ_55
set_option maxRecDepth 100000 in
set_option maxHeartbeats 4000000 in
theorem c_X2_grow (l : Launch) (D : va_G) (cI cZ : ClassId) (α : Nat → Nat) (A : Nat → Prop) (hJ : ∀ σ, va_D A ((kwX cI α) σ)) (x1 x2 : Int32) (σ : KS) : Ct l D (tyA cI cZ) (kwX cI α) A yX2_grow cX2_grow 6 (some .int) 7 vI [.ref (α 0), .int x1, .int x2] σ (m_X2_grow x1 x2 σ) := by
  refine Ct.of (own := RX2) hJ (by decide) rfl (Nat.le_of_ble_eq_true rfl) ?_
  intro p e s m args below meth c X
  refine r_sub (lv' := [(0, .ref (α 0)), (1, .int x1), (2, .int x2)]) [0, 1, 2] rfl ?_
  unfold m_X2_grow
  refine r_aload_n X (j := 0) dX2_grow_0 rfl rfl ?_
  refine r_iload_n X (j := 1) dX2_grow_1 rfl rfl ?_
  refine r_callVi X (q0 := 0) (ci := 2) (n := 1) (As := [.int x1]) (st := []) (c_X2_isLive l D cI cZ α A hJ x1 σ) ml_X2_60 im_X2_isLive se_X2_isLive ii_X2 co_X2_isLive (by decide +kernel) ⟨Nat.le_of_ble_eq_true rfl, Nat.le_of_ble_eq_true rfl⟩ rfl rfl rfl rfl (Nat.le_of_ble_eq_true rfl) dX2_grow_2 (fun r_2 σ_2 hc_2 => ?_)
  refine r_if_ne X (tgt := 11) dX2_grow_5 (by decide) (fun _ => ?_) (fun _ => ?_)
  · refine r_bipush X (v := (-2)) dX2_grow_8 (by decide) ?_
    exact r_ireturn X dX2_grow_10
  · refine r_aload_n X (j := 0) dX2_grow_11 rfl rfl ?_
    refine r_get X (ci := 2) (q0 := 0) (v := .ref (α 14)) inX2 rfl rfl 9 (by decide) rfl fl_X2_47 dX2_grow_12 ?_
    refine r_iload_n X (j := 1) dX2_grow_15 rfl rfl ?_
    refine r_iald X (q0 := 14) (t0 := 0) (kk := 14) rfl rfl dX2_grow_16 ?_
    refine r_istore_n X (lv' := [(3, .int (rd σ_2 14 x1)), (0, .ref (α 0)), (1, .int x1), (2, .int x2)]) dX2_grow_17 rfl (by decide) rfl ?_
    refine r_iload_n X (j := 3) dX2_grow_18 rfl rfl ?_
    refine r_iload_n X (j := 0) dX2_grow_19 rfl rfl ?_
    refine r_ineg X dX2_grow_20 ?_
    refine r_icmp_lt X (tgt := 33) dX2_grow_21 (by decide) (fun _ => ?_) (fun _ => ?_)
    · refine r_bipush X (v := (-2)) dX2_grow_33 (by decide) ?_
      exact r_ireturn X dX2_grow_35
    · refine r_iload_n X (j := 3) dX2_grow_24 rfl rfl ?_
      refine r_sipush X (v := 256) dX2_grow_25 (by decide) ?_
      refine r_iload_n X (j := 0) dX2_grow_28 rfl rfl ?_
      refine r_isub X dX2_grow_29 ?_
      refine r_icmp_le X (tgt := 36) dX2_grow_30 (by decide) (fun _ => ?_) (fun _ => ?_)
      · refine r_iload_n X (j := 0) dX2_grow_36 rfl rfl ?_
        refine r_iload_n X (j := 3) dX2_grow_37 rfl rfl ?_
        refine r_iadd X dX2_grow_38 ?_
        refine r_istore X (lv' := [(4, .int ((rd σ_2 14 x1) + x2)), (3, .int (rd σ_2 14 x1)), (0, .ref (α 0)), (1, .int x1), (2, .int x2)]) dX2_grow_39 (by decide) rfl ?_
        refine r_iload_n X (j := 1) dX2_grow_41 rfl rfl ?_
        refine r_istore X (lv' := [(5, .int (rd σ_2 14 x1)), (4, .int ((rd σ_2 14 x1) + x2)), (3, .int (rd σ_2 14 x1)), (0, .ref (α 0)), (1, .int x1), (2, .int x2)]) dX2_grow_42 (by decide) rfl ?_
        refine r_sub (lv' := [(0, .ref (α 0)), (1, .int x1), (2, .int x2), (3, .int (rd σ_2 14 x1)), (4, .int ((rd σ_2 14 x1) + x2)), (5, .int (rd σ_2 14 x1))]) [3, 4, 5, 2, 1, 0] rfl ?_
        exact cl_X2_grow_44 l D cI cZ α A hJ X FU x1 x2 (rd σ_2 14 x1) ((rd σ_2 14 x1) + x2) (rd σ_2 14 x1) σ_2
      · refine r_bipush X (v := (-2)) dX2_grow_33 (by decide) ?_
        exact r_ireturn X dX2_grow_35
set_option maxRecDepth 100000 in
set_option maxHeartbeats 4000000 in
theorem c_X2_makeProcess (l : Launch) (D : va_G) (cI cZ : ClassId) (α : Nat → Nat) (A : Nat → Prop) (hJ : ∀ σ, va_D A ((kwX cI α) σ)) (x1 : Int32) (σ : KS) : Ct l D (tyA cI cZ) (kwX cI α) A yX2_makeProcess cX2_makeProcess 4 (some .int) 7 vI [.ref (α 0), .int x1] σ (m_X2_makeProcess x1 σ) := by
  refine Ct.of (own := RX2) hJ (by decide) rfl (Nat.le_of_ble_eq_true rfl) ?_
  intro p e s m args below meth c X
  refine r_sub (lv' := [(0, .ref (α 0)), (1, .int x1)]) [0, 1] rfl ?_
  unfold m_X2_makeProcess
  refine r_aload_n X (j := 0) dX2_makeProcess_0 rfl rfl ?_
  refine r_callVi X (q0 := 0) (ci := 2) (n := 0) (As := []) (st := []) (c_X2_leastUnused l D cI cZ α A hJ σ) ml_X2_160 im_X2_leastUnused se_X2_leastUnused ii_X2 co_X2_leastUnused (by decide +kernel) ⟨Nat.le_of_ble_eq_true rfl, Nat.le_of_ble_eq_true rfl⟩ rfl rfl rfl rfl (Nat.le_of_ble_eq_true rfl) dX2_makeProcess_1 (fun r_1 σ_1 hc_1 => ?_)
  refine r_istore_n X (lv' := [(2, .int r_1), (0, .ref (α 0)), (1, .int x1)]) dX2_makeProcess_4 rfl (by decide) rfl ?_
  refine r_iload_n X (j := 0) dX2_makeProcess_5 rfl rfl ?_
  refine r_callSi X (n := 1) (As := [.int r_1]) (st := []) (c_X2_isNumber l D cI cZ α A hJ r_1 σ_1) ml_X2_145 sm_X2_isNumber ii_X2 co_X2_isNumber (by decide +kernel) ⟨Nat.le_of_ble_eq_true rfl, Nat.le_of_ble_eq_true rfl⟩ rfl rfl (Nat.le_of_ble_eq_true rfl) dX2_makeProcess_6 (fun r_6 σ_6 hc_6 => ?_)
  refine r_if_ne X (tgt := 15) dX2_makeProcess_9 (by decide) (fun _ => ?_) (fun _ => ?_)
  · refine r_bipush X (v := (-4)) dX2_makeProcess_12 (by decide) ?_
    exact r_ireturn X dX2_makeProcess_14
  · refine r_aload_n X (j := 1) dX2_makeProcess_15 rfl rfl ?_
    refine r_get X (ci := 2) (q0 := 0) (v := .ref (α 2)) inX2 rfl rfl 1 (by decide) rfl fl_X2_21 dX2_makeProcess_16 ?_
    refine r_callVi X (q0 := 2) (ci := 1) (n := 0) (As := []) (st := []) (c_X1r_takePlace l D cI cZ α A hJ σ_6) ml_X2_163 im_X1_takePlace se_X1_takePlace ii_X1 co_X1_takePlace (by decide +kernel) ⟨Nat.le_of_ble_eq_true rfl, Nat.le_of_ble_eq_true rfl⟩ rfl rfl rfl rfl (Nat.le_of_ble_eq_true rfl) dX2_makeProcess_19 (fun r_19 σ_19 hc_19 => ?_)
    refine r_istore_n X (lv' := [(3, .int r_19), (2, .int r_1), (0, .ref (α 0)), (1, .int x1)]) dX2_makeProcess_22 rfl (by decide) rfl ?_
    refine r_iload_n X (j := 0) dX2_makeProcess_23 rfl rfl ?_
    refine r_iconst X (v := (-1)) dX2_makeProcess_24 (by decide) ?_
    refine r_icmp_ne X (tgt := 33) dX2_makeProcess_25 (by decide) (fun _ => ?_) (fun _ => ?_)
    · refine r_aload_n X (j := 2) dX2_makeProcess_28 rfl rfl ?_
      refine r_callVi X (q0 := 0) (ci := 2) (n := 0) (As := []) (st := []) (c_X2_refuse l D cI cZ α A hJ σ_19) ml_X2_72 im_X2_refuse se_X2_refuse ii_X2 co_X2_refuse (by decide +kernel) ⟨Nat.le_of_ble_eq_true rfl, Nat.le_of_ble_eq_true rfl⟩ rfl rfl rfl rfl (Nat.le_of_ble_eq_true rfl) dX2_makeProcess_29 (fun r_29 σ_29 hc_29 => ?_)
      exact r_ireturn X dX2_makeProcess_32
    · refine r_aload_n X (j := 2) dX2_makeProcess_33 rfl rfl ?_
      refine r_get X (ci := 2) (q0 := 0) (v := .ref (α 15)) inX2 rfl rfl 10 (by decide) rfl fl_X2_50 dX2_makeProcess_34 ?_
      refine r_iload_n X (j := 1) dX2_makeProcess_37 rfl rfl ?_
      refine r_iload_n X (j := 0) dX2_makeProcess_38 rfl rfl ?_
      refine r_iast X (q0 := 15) (t0 := 0) (kk := 15) rfl (fun _ => rfl) rfl dX2_makeProcess_39 ?_
      refine r_aload_n X (j := 2) dX2_makeProcess_40 rfl rfl ?_
      refine r_iload_n X (j := 3) dX2_makeProcess_41 rfl rfl ?_
      refine r_callVi X (q0 := 0) (ci := 2) (n := 1) (As := [.int x1]) (st := []) (c_X2_isLive l D cI cZ α A hJ x1 (wr σ_19 15 r_1 r_19)) ml_X2_60 im_X2_isLive se_X2_isLive ii_X2 co_X2_isLive (by decide +kernel) ⟨Nat.le_of_ble_eq_true rfl, Nat.le_of_ble_eq_true rfl⟩ rfl rfl rfl rfl (Nat.le_of_ble_eq_true rfl) dX2_makeProcess_42 (fun r_42 σ_42 hc_42 => ?_)
      refine r_if_eq X (tgt := 81) dX2_makeProcess_45 (by decide) (fun _ => ?_) (fun _ => ?_)
      · refine r_aload_n X (j := 2) dX2_makeProcess_81 rfl rfl ?_
        refine r_get X (ci := 2) (q0 := 0) (v := .ref (α 11)) inX2 rfl rfl 6 (by decide) rfl fl_X2_38 dX2_makeProcess_82 ?_
        refine r_iload_n X (j := 1) dX2_makeProcess_85 rfl rfl ?_
        refine r_iconst X (v := 1) dX2_makeProcess_86 (by decide) ?_
        refine r_iast X (q0 := 11) (t0 := 0) (kk := 11) rfl (fun _ => rfl) rfl dX2_makeProcess_87 ?_
        refine r_aload_n X (j := 2) dX2_makeProcess_88 rfl rfl ?_
        refine r_get X (ci := 2) (q0 := 0) (v := .ref (α 12)) inX2 rfl rfl 7 (by decide) rfl fl_X2_41 dX2_makeProcess_89 ?_
        refine r_iload_n X (j := 1) dX2_makeProcess_92 rfl rfl ?_
        refine r_iload_n X (j := 3) dX2_makeProcess_93 rfl rfl ?_
        refine r_iast X (q0 := 12) (t0 := 0) (kk := 12) rfl (fun _ => rfl) rfl dX2_makeProcess_94 ?_
        refine r_aload_n X (j := 2) dX2_makeProcess_95 rfl rfl ?_
        refine r_iload_n X (j := 1) dX2_makeProcess_96 rfl rfl ?_
        refine r_callVv X (q0 := 0) (ci := 2) (n := 1) (As := [.int r_1]) (st := []) (c_X2_joinRow l D cI cZ α A hJ r_1 (wr (wr σ_42 11 r_1 1) 12 r_1 x1)) ml_X2_112 im_X2_joinRow se_X2_joinRow ii_X2 co_X2_joinRow (by decide +kernel) ⟨Nat.le_of_ble_eq_true rfl, Nat.le_of_ble_eq_true rfl⟩ rfl rfl rfl rfl (Nat.le_of_ble_eq_true rfl) dX2_makeProcess_97 (fun r_97 σ_97 hc_97 => ?_)
        refine r_iload_n X (j := 1) dX2_makeProcess_100 rfl rfl ?_
        exact r_ireturn X dX2_makeProcess_101
      · refine r_aload_n X (j := 2) dX2_makeProcess_48 rfl rfl ?_
        refine r_iload_n X (j := 1) dX2_makeProcess_49 rfl rfl ?_
        refine r_aload_n X (j := 2) dX2_makeProcess_50 rfl rfl ?_
        refine r_get X (ci := 2) (q0 := 0) (v := .ref (α 14)) inX2 rfl rfl 9 (by decide) rfl fl_X2_47 dX2_makeProcess_51 ?_
        refine r_iload_n X (j := 3) dX2_makeProcess_54 rfl rfl ?_
        refine r_iald X (q0 := 14) (t0 := 0) (kk := 14) rfl rfl dX2_makeProcess_55 ?_
        refine r_callVi X (q0 := 0) (ci := 2) (n := 2) (As := [.int r_1, .int (rd σ_42 14 x1)]) (st := []) (c_X2_takeTables l D cI cZ α A hJ r_1 (rd σ_42 14 x1) σ_42) ml_X2_166 im_X2_takeTables se_X2_takeTables ii_X2 co_X2_takeTables (by decide +kernel) ⟨Nat.le_of_ble_eq_true rfl, Nat.le_of_ble_eq_true rfl⟩ rfl rfl rfl rfl (Nat.le_of_ble_eq_true rfl) dX2_makeProcess_56 (fun r_56 σ_56 hc_56 => ?_)
        refine r_if_ne X (tgt := 75) dX2_makeProcess_59 (by decide) (fun _ => ?_) (fun _ => ?_)
        · refine r_aload_n X (j := 2) dX2_makeProcess_62 rfl rfl ?_
          refine r_get X (ci := 2) (q0 := 0) (v := .ref (α 2)) inX2 rfl rfl 1 (by decide) rfl fl_X2_21 dX2_makeProcess_63 ?_
          refine r_iload_n X (j := 0) dX2_makeProcess_66 rfl rfl ?_
          refine r_callVv X (q0 := 2) (ci := 1) (n := 1) (As := [.int r_19]) (st := []) (c_X1r_givePlace l D cI cZ α A hJ r_19 σ_56) ml_X2_169 im_X1_givePlace se_X1_givePlace ii_X1 co_X1_givePlace (by decide +kernel) ⟨Nat.le_of_ble_eq_true rfl, Nat.le_of_ble_eq_true rfl⟩ rfl rfl rfl rfl (Nat.le_of_ble_eq_true rfl) dX2_makeProcess_67 (fun r_67 σ_67 hc_67 => ?_)
          refine r_aload_n X (j := 2) dX2_makeProcess_70 rfl rfl ?_
          refine r_callVi X (q0 := 0) (ci := 2) (n := 0) (As := []) (st := []) (c_X2_refuse l D cI cZ α A hJ σ_67) ml_X2_72 im_X2_refuse se_X2_refuse ii_X2 co_X2_refuse (by decide +kernel) ⟨Nat.le_of_ble_eq_true rfl, Nat.le_of_ble_eq_true rfl⟩ rfl rfl rfl rfl (Nat.le_of_ble_eq_true rfl) dX2_makeProcess_71 (fun r_71 σ_71 hc_71 => ?_)
          exact r_ireturn X dX2_makeProcess_74
        · refine r_aload_n X (j := 2) dX2_makeProcess_75 rfl rfl ?_
          refine r_iload_n X (j := 3) dX2_makeProcess_76 rfl rfl ?_
          refine r_iload_n X (j := 1) dX2_makeProcess_77 rfl rfl ?_
          refine r_callVv X (q0 := 0) (ci := 2) (n := 2) (As := [.int x1, .int r_1]) (st := []) (c_X2_sharePages l D cI cZ α A hJ x1 r_1 σ_56) ml_X2_172 im_X2_sharePages se_X2_sharePages ii_X2 co_X2_sharePages (by decide +kernel) ⟨Nat.le_of_ble_eq_true rfl, Nat.le_of_ble_eq_true rfl⟩ rfl rfl rfl rfl (Nat.le_of_ble_eq_true rfl) dX2_makeProcess_78 (fun r_78 σ_78 hc_78 => ?_)
          refine r_aload_n X (j := 2) dX2_makeProcess_81 rfl rfl ?_
          refine r_get X (ci := 2) (q0 := 0) (v := .ref (α 11)) inX2 rfl rfl 6 (by decide) rfl fl_X2_38 dX2_makeProcess_82 ?_
          refine r_iload_n X (j := 1) dX2_makeProcess_85 rfl rfl ?_
          refine r_iconst X (v := 1) dX2_makeProcess_86 (by decide) ?_
          refine r_iast X (q0 := 11) (t0 := 0) (kk := 11) rfl (fun _ => rfl) rfl dX2_makeProcess_87 ?_
          refine r_aload_n X (j := 2) dX2_makeProcess_88 rfl rfl ?_
          refine r_get X (ci := 2) (q0 := 0) (v := .ref (α 12)) inX2 rfl rfl 7 (by decide) rfl fl_X2_41 dX2_makeProcess_89 ?_
          refine r_iload_n X (j := 1) dX2_makeProcess_92 rfl rfl ?_
          refine r_iload_n X (j := 3) dX2_makeProcess_93 rfl rfl ?_
          refine r_iast X (q0 := 12) (t0 := 0) (kk := 12) rfl (fun _ => rfl) rfl dX2_makeProcess_94 ?_
          refine r_aload_n X (j := 2) dX2_makeProcess_95 rfl rfl ?_
          refine r_iload_n X (j := 1) dX2_makeProcess_96 rfl rfl ?_
          refine r_callVv X (q0 := 0) (ci := 2) (n := 1) (As := [.int r_1]) (st := []) (c_X2_joinRow l D cI cZ α A hJ r_1 (wr (wr σ_78 11 r_1 1) 12 r_1 x1)) ml_X2_112 im_X2_joinRow se_X2_joinRow ii_X2 co_X2_joinRow (by decide +kernel) ⟨Nat.le_of_ble_eq_true rfl, Nat.le_of_ble_eq_true rfl⟩ rfl rfl rfl rfl (Nat.le_of_ble_eq_true rfl) dX2_makeProcess_97 (fun r_97 σ_97 hc_97 => ?_)
          refine r_iload_n X (j := 1) dX2_makeProcess_100 rfl rfl ?_
          exact r_ireturn X dX2_makeProcess_101
set_option maxRecDepth 100000 in
set_option maxHeartbeats 4000000 in
theorem c_X2_fork (l : Launch) (D : va_G) (cI cZ : ClassId) (α : Nat → Nat) (A : Nat → Prop) (hJ : ∀ σ, va_D A ((kwX cI α) σ)) (x1 : Int32) (σ : KS) : Ct l D (tyA cI cZ) (kwX cI α) A yX2_fork cX2_fork 2 (some .int) 8 vI [.ref (α 0), .int x1] σ (m_X2_fork x1 σ) := by
  refine Ct.of (own := RX2) hJ (by decide) rfl (Nat.le_of_ble_eq_true rfl) ?_
  intro p e s m args below meth c X
  refine r_sub (lv' := [(0, .ref (α 0)), (1, .int x1)]) [0, 1] rfl ?_
  unfold m_X2_fork
  refine r_aload_n X (j := 0) dX2_fork_0 rfl rfl ?_
  refine r_iload_n X (j := 1) dX2_fork_1 rfl rfl ?_
  refine r_callVi X (q0 := 0) (ci := 2) (n := 1) (As := [.int x1]) (st := []) (c_X2_isLive l D cI cZ α A hJ x1 σ) ml_X2_60 im_X2_isLive se_X2_isLive ii_X2 co_X2_isLive (by decide +kernel) ⟨Nat.le_of_ble_eq_true rfl, Nat.le_of_ble_eq_true rfl⟩ rfl rfl rfl rfl (Nat.le_of_ble_eq_true rfl) dX2_fork_2 (fun r_2 σ_2 hc_2 => ?_)
  refine r_if_eq X (tgt := 16) dX2_fork_5 (by decide) (fun _ => ?_) (fun _ => ?_)
  · refine r_bipush X (v := (-2)) dX2_fork_16 (by decide) ?_
    exact r_ireturn X dX2_fork_18
  · refine r_aload_n X (j := 0) dX2_fork_8 rfl rfl ?_
    refine r_iload_n X (j := 1) dX2_fork_9 rfl rfl ?_
    refine r_callVi X (q0 := 0) (ci := 2) (n := 1) (As := [.int x1]) (st := []) (c_X2_makeProcess l D cI cZ α A hJ x1 σ_2) ml_X2_56 im_X2_makeProcess se_X2_makeProcess ii_X2 co_X2_makeProcess (by decide +kernel) ⟨Nat.le_of_ble_eq_true rfl, Nat.le_of_ble_eq_true rfl⟩ rfl rfl rfl rfl (Nat.le_of_ble_eq_true rfl) dX2_fork_10 (fun r_10 σ_10 hc_10 => ?_)
    refine r_goto X (tgt := 18) dX2_fork_13 (by decide) ?_
    exact r_ireturn X dX2_fork_18
set_option maxRecDepth 100000 in
set_option maxHeartbeats 4000000 in
theorem c_X2_spawn (l : Launch) (D : va_G) (cI cZ : ClassId) (α : Nat → Nat) (A : Nat → Prop) (hJ : ∀ σ, va_D A ((kwX cI α) σ)) (σ : KS) : Ct l D (tyA cI cZ) (kwX cI α) A yX2_spawn cX2_spawn 1 (some .int) 8 vI [.ref (α 0)] σ (m_X2_spawn σ) := by
  refine Ct.of (own := RX2) hJ (by decide) rfl (Nat.le_of_ble_eq_true rfl) ?_
  intro p e s m args below meth c X
  refine r_sub (lv' := [(0, .ref (α 0))]) [0] rfl ?_
  unfold m_X2_spawn
  refine r_aload_n X (j := 0) dX2_spawn_0 rfl rfl ?_
  refine r_iconst X (v := (-1)) dX2_spawn_1 (by decide) ?_
  refine r_callVi X (q0 := 0) (ci := 2) (n := 1) (As := [.int (-1)]) (st := []) (c_X2_makeProcess l D cI cZ α A hJ (-1) σ) ml_X2_56 im_X2_makeProcess se_X2_makeProcess ii_X2 co_X2_makeProcess (by decide +kernel) ⟨Nat.le_of_ble_eq_true rfl, Nat.le_of_ble_eq_true rfl⟩ rfl rfl rfl rfl (Nat.le_of_ble_eq_true rfl) dX2_spawn_2 (fun r_2 σ_2 hc_2 => ?_)
  exact r_ireturn X dX2_spawn_5
end
section
set_option maxRecDepth 100000 in
set_option maxHeartbeats 4000000 in
theorem c_X3_begin (l : Launch) (D : va_G) (cI cZ : ClassId) (α : Nat → Nat) (A : Nat → Prop) (hJ : ∀ σ, va_D A ((kwM cI cZ α) σ)) (x1 x2 x3 : Int32) (σ : KS) : Ct l D (tyA cI cZ) (kwM cI cZ α) A yX3_begin cX3_begin 4 none 0 vV [.ref (α 0), .int x1, .int x2, .int x3] σ (m_X3_begin x1 x2 x3 σ) := by
  refine Ct.of (own := RX3) hJ (by decide) rfl (Nat.le_of_ble_eq_true rfl) ?_
  intro p e s m args below meth c X
  refine r_sub (lv' := [(0, .ref (α 0)), (1, .int x1), (2, .int x2), (3, .int x3)]) [0, 1, 2, 3] rfl ?_
  unfold m_X3_begin
  refine r_aload_n X (j := 0) dX3_begin_0 rfl rfl ?_
  refine r_get X (ci := 3) (q0 := 0) (v := .ref (α 6)) inX3 rfl rfl 5 (by decide) rfl fl_X3_26 dX3_begin_1 ?_
  refine r_iload_n X (j := 1) dX3_begin_4 rfl rfl ?_
  refine r_iconst X (v := 1) dX3_begin_5 (by decide) ?_
  refine r_iast X (q0 := 6) (t0 := 0) (kk := 6) rfl (fun _ => rfl) rfl dX3_begin_6 ?_
  refine r_aload_n X (j := 0) dX3_begin_7 rfl rfl ?_
  refine r_get X (ci := 3) (q0 := 0) (v := .ref (α 10)) inX3 rfl rfl 9 (by decide) rfl fl_X3_38 dX3_begin_8 ?_
  refine r_iload_n X (j := 1) dX3_begin_11 rfl rfl ?_
  refine r_iload_n X (j := 2) dX3_begin_12 rfl rfl ?_
  refine r_iast X (q0 := 10) (t0 := 0) (kk := 10) rfl (fun _ => rfl) rfl dX3_begin_13 ?_
  refine r_aload_n X (j := 0) dX3_begin_14 rfl rfl ?_
  refine r_get X (ci := 3) (q0 := 0) (v := .ref (α 8)) inX3 rfl rfl 7 (by decide) rfl fl_X3_32 dX3_begin_15 ?_
  refine r_iload_n X (j := 1) dX3_begin_18 rfl rfl ?_
  refine r_iload_n X (j := 3) dX3_begin_19 rfl rfl ?_
  refine r_iast X (q0 := 8) (t0 := 0) (kk := 8) rfl (fun _ => rfl) rfl dX3_begin_20 ?_
  refine r_aload_n X (j := 0) dX3_begin_21 rfl rfl ?_
  refine r_get X (ci := 3) (q0 := 0) (v := .ref (α 7)) inX3 rfl rfl 6 (by decide) rfl fl_X3_29 dX3_begin_22 ?_
  refine r_iload_n X (j := 1) dX3_begin_25 rfl rfl ?_
  refine r_iconst X (v := 0) dX3_begin_26 (by decide) ?_
  refine r_iast X (q0 := 7) (t0 := 0) (kk := 7) rfl (fun _ => rfl) rfl dX3_begin_27 ?_
  refine r_aload_n X (j := 0) dX3_begin_28 rfl rfl ?_
  refine r_get X (ci := 3) (q0 := 0) (v := .ref (α 13)) inX3 rfl rfl 12 (by decide) rfl fl_X3_47 dX3_begin_29 ?_
  refine r_aload_n X (j := 0) dX3_begin_32 rfl rfl ?_
  refine r_get X (ci := 3) (q0 := 0) (v := .int (gv (wr (wr (wr (wr σ 6 x1 1) 10 x1 x2) 8 x1 x3) 7 x1 0) 0)) inX3 rfl rfl 13 (by decide) rfl fl_X3_80 dX3_begin_33 ?_
  refine r_iload_n X (j := 1) dX3_begin_36 rfl rfl ?_
  refine r_iast X (q0 := 13) (t0 := 0) (kk := 13) rfl (fun _ => rfl) rfl dX3_begin_37 ?_
  refine r_aload_n X (j := 0) dX3_begin_38 rfl rfl ?_
  refine r_dup X dX3_begin_39 rfl ?_
  refine r_get X (ci := 3) (q0 := 0) (v := .int (gv (wr (wr (wr (wr (wr σ 6 x1 1) 10 x1 x2) 8 x1 x3) 7 x1 0) 13 (gv (wr (wr (wr (wr σ 6 x1 1) 10 x1 x2) 8 x1 x3) 7 x1 0) 0) x1) 0)) inX3 rfl rfl 13 (by decide) rfl fl_X3_80 dX3_begin_40 ?_
  refine r_iconst X (v := 1) dX3_begin_43 (by decide) ?_
  refine r_iadd X dX3_begin_44 ?_
  refine r_put X (ci := 3) (q0 := 0) (j := 0) inX3 rfl tyX3_ok nmX3 rfl 13 (by decide) rfl fl_X3_80 rfl (by decide +kernel) (Nat.le_of_ble_eq_true rfl) dX3_begin_45 ?_
  exact r_return X dX3_begin_48
set_option maxRecDepth 100000 in
set_option maxHeartbeats 4000000 in
theorem c_X3_current (l : Launch) (D : va_G) (cI cZ : ClassId) (α : Nat → Nat) (A : Nat → Prop) (hJ : ∀ σ, va_D A ((kwM cI cZ α) σ)) (σ : KS) : Ct l D (tyA cI cZ) (kwM cI cZ α) A yX3_current cX3_current 1 (some .int) 0 vI [.ref (α 0)] σ (m_X3_current σ) := by
  refine Ct.of (own := RX3) hJ (by decide) rfl (Nat.le_of_ble_eq_true rfl) ?_
  intro p e s m args below meth c X
  refine r_sub (lv' := [(0, .ref (α 0))]) [0] rfl ?_
  unfold m_X3_current
  refine r_aload_n X (j := 0) dX3_current_0 rfl rfl ?_
  refine r_get X (ci := 3) (q0 := 0) (v := .int (gv σ 0)) inX3 rfl rfl 13 (by decide) rfl fl_X3_80 dX3_current_1 ?_
  refine r_if_ne X (tgt := 11) dX3_current_4 (by decide) (fun _ => ?_) (fun _ => ?_)
  · refine r_iconst X (v := (-1)) dX3_current_7 (by decide) ?_
    refine r_goto X (tgt := 17) dX3_current_8 (by decide) ?_
    exact r_ireturn X dX3_current_17
  · refine r_aload_n X (j := 0) dX3_current_11 rfl rfl ?_
    refine r_get X (ci := 3) (q0 := 0) (v := .ref (α 13)) inX3 rfl rfl 12 (by decide) rfl fl_X3_47 dX3_current_12 ?_
    refine r_iconst X (v := 0) dX3_current_15 (by decide) ?_
    refine r_iald X (q0 := 13) (t0 := 0) (kk := 13) rfl rfl dX3_current_16 ?_
    exact r_ireturn X dX3_current_17
set_option maxRecDepth 100000 in
set_option maxHeartbeats 4000000 in
theorem cl_X3_fail_56 (l : Launch) (D : va_G) (cI cZ : ClassId) (α : Nat → Nat) (A : Nat → Prop) (hJ : ∀ σ, va_D A ((kwM cI cZ α) σ)) {p : Program} {e : Env} {s : State} {m : MethodId} {args : Array Value} {below : List Frame} {meth : Method} {c : Code} (X : CX p s m args meth c cX3_fail 2 RX3 D (tyA cI cZ) (kwM cI cZ α) A (some .int)) : ∀ (n : Nat) (x1 : Int32) (σ : KS), Cr p l e (rmd 0) s m args below meth c 2 D (kwM cI cZ α) A vI 56 [(0, .ref (α 0)), (1, .int x1)] [] σ (f_X3_fail_56 n x1 σ) := by
  intro n
  induction n with
  | zero => intros; exact r_none
  | succ n ih =>
    intro x1 σ
    rw [f_X3_fail_56]
    refine r_iload_n X (j := 1) dX3_fail_56 rfl rfl ?_
    refine r_sipush X (v := 512) dX3_fail_57 (by decide) ?_
    refine r_icmp_ge X (tgt := 81) dX3_fail_60 (by decide) (fun _ => ?_) (fun _ => ?_)
    · refine r_aload_n X (j := 0) dX3_fail_81 rfl rfl ?_
      refine r_dup X dX3_fail_82 rfl ?_
      refine r_get X (ci := 3) (q0 := 0) (v := .int (gv σ 2)) inX3 rfl rfl 15 (by decide) rfl fl_X3_63 dX3_fail_83 ?_
      refine r_iconst X (v := 1) dX3_fail_86 (by decide) ?_
      refine r_iadd X dX3_fail_87 ?_
      refine r_put X (ci := 3) (q0 := 0) (j := 2) inX3 rfl tyX3_ok nmX3 rfl 15 (by decide) rfl fl_X3_63 rfl (by decide +kernel) (Nat.le_of_ble_eq_true rfl) dX3_fail_88 ?_
      refine r_bipush X (v := (-3)) dX3_fail_91 (by decide) ?_
      exact r_ireturn X dX3_fail_93
    · refine r_aload_n X (j := 0) dX3_fail_63 rfl rfl ?_
      refine r_get X (ci := 3) (q0 := 0) (v := .ref (α 3)) inX3 rfl rfl 2 (by decide) rfl fl_X3_17 dX3_fail_64 ?_
      refine r_iload_n X (j := 1) dX3_fail_67 rfl rfl ?_
      refine r_aload_n X (j := 0) dX3_fail_68 rfl rfl ?_
      refine r_get X (ci := 3) (q0 := 0) (v := .ref (α 16)) inX3 rfl rfl 19 (by decide) rfl fl_X3_56 dX3_fail_69 ?_
      refine r_iload_n X (j := 1) dX3_fail_72 rfl rfl ?_
      refine r_zald X (q0 := 16) (t0 := 1) (kk := 16) rfl rfl dX3_fail_73 ?_
      refine r_zast X (q0 := 3) (t0 := 1) (kk := 3) rfl (fun _ => rfl) rfl dX3_fail_74 ?_
      refine r_iinc X (j := 1) (v := (x1 + 1)) (lv' := [(1, .int (x1 + 1)), (0, .ref (α 0))]) dX3_fail_75 rfl rfl (by decide) rfl ?_
      refine r_goto X (tgt := 56) dX3_fail_78 (by decide) ?_
      refine r_sub (lv' := [(0, .ref (α 0)), (1, .int (x1 + 1))]) [1, 0] rfl ?_
      exact ih (x1 + 1) (wr σ 3 x1 (rd σ 16 x1))
set_option maxRecDepth 100000 in
set_option maxHeartbeats 4000000 in
theorem cl_X3_fail_29 (l : Launch) (D : va_G) (cI cZ : ClassId) (α : Nat → Nat) (A : Nat → Prop) (hJ : ∀ σ, va_D A ((kwM cI cZ α) σ)) {p : Program} {e : Env} {s : State} {m : MethodId} {args : Array Value} {below : List Frame} {meth : Method} {c : Code} (X : CX p s m args meth c cX3_fail 2 RX3 D (tyA cI cZ) (kwM cI cZ α) A (some .int)) : ∀ (n : Nat) (x1 : Int32) (σ : KS), Cr p l e (rmd 0) s m args below meth c 2 D (kwM cI cZ α) A vI 29 [(0, .ref (α 0)), (1, .int x1)] [] σ (f_X3_fail_29 n x1 σ) := by
  intro n
  induction n with
  | zero => intros; exact r_none
  | succ n ih =>
    intro x1 σ
    rw [f_X3_fail_29]
    refine r_iload_n X (j := 1) dX3_fail_29 rfl rfl ?_
    refine r_sipush X (v := 128) dX3_fail_30 (by decide) ?_
    refine r_icmp_ge X (tgt := 54) dX3_fail_33 (by decide) (fun _ => ?_) (fun _ => ?_)
    · refine r_iconst X (v := 0) dX3_fail_54 (by decide) ?_
      refine r_istore_n X (lv' := [(1, .int 0), (0, .ref (α 0))]) dX3_fail_55 rfl (by decide) rfl ?_
      refine r_sub (lv' := [(0, .ref (α 0)), (1, .int 0)]) [1, 0] rfl ?_
      exact cl_X3_fail_56 l D cI cZ α A hJ X FU 0 σ
    · refine r_aload_n X (j := 0) dX3_fail_36 rfl rfl ?_
      refine r_get X (ci := 3) (q0 := 0) (v := .ref (α 2)) inX3 rfl rfl 1 (by decide) rfl fl_X3_13 dX3_fail_37 ?_
      refine r_iload_n X (j := 1) dX3_fail_40 rfl rfl ?_
      refine r_aload_n X (j := 0) dX3_fail_41 rfl rfl ?_
      refine r_get X (ci := 3) (q0 := 0) (v := .ref (α 15)) inX3 rfl rfl 18 (by decide) rfl fl_X3_53 dX3_fail_42 ?_
      refine r_iload_n X (j := 1) dX3_fail_45 rfl rfl ?_
      refine r_iald X (q0 := 15) (t0 := 0) (kk := 15) rfl rfl dX3_fail_46 ?_
      refine r_iast X (q0 := 2) (t0 := 0) (kk := 2) rfl (fun _ => rfl) rfl dX3_fail_47 ?_
      refine r_iinc X (j := 1) (v := (x1 + 1)) (lv' := [(1, .int (x1 + 1)), (0, .ref (α 0))]) dX3_fail_48 rfl rfl (by decide) rfl ?_
      refine r_goto X (tgt := 29) dX3_fail_51 (by decide) ?_
      refine r_sub (lv' := [(0, .ref (α 0)), (1, .int (x1 + 1))]) [1, 0] rfl ?_
      exact ih (x1 + 1) (wr σ 2 x1 (rd σ 15 x1))
set_option maxRecDepth 100000 in
set_option maxHeartbeats 4000000 in
theorem cl_X3_fail_2 (l : Launch) (D : va_G) (cI cZ : ClassId) (α : Nat → Nat) (A : Nat → Prop) (hJ : ∀ σ, va_D A ((kwM cI cZ α) σ)) {p : Program} {e : Env} {s : State} {m : MethodId} {args : Array Value} {below : List Frame} {meth : Method} {c : Code} (X : CX p s m args meth c cX3_fail 2 RX3 D (tyA cI cZ) (kwM cI cZ α) A (some .int)) : ∀ (n : Nat) (x1 : Int32) (σ : KS), Cr p l e (rmd 0) s m args below meth c 2 D (kwM cI cZ α) A vI 2 [(0, .ref (α 0)), (1, .int x1)] [] σ (f_X3_fail_2 n x1 σ) := by
  intro n
  induction n with
  | zero => intros; exact r_none
  | succ n ih =>
    intro x1 σ
    rw [f_X3_fail_2]
    refine r_iload_n X (j := 1) dX3_fail_2 rfl rfl ?_
    refine r_sipush X (v := 1024) dX3_fail_3 (by decide) ?_
    refine r_icmp_ge X (tgt := 27) dX3_fail_6 (by decide) (fun _ => ?_) (fun _ => ?_)
    · refine r_iconst X (v := 0) dX3_fail_27 (by decide) ?_
      refine r_istore_n X (lv' := [(1, .int 0), (0, .ref (α 0))]) dX3_fail_28 rfl (by decide) rfl ?_
      refine r_sub (lv' := [(0, .ref (α 0)), (1, .int 0)]) [1, 0] rfl ?_
      exact cl_X3_fail_29 l D cI cZ α A hJ X FU 0 σ
    · refine r_aload_n X (j := 0) dX3_fail_9 rfl rfl ?_
      refine r_get X (ci := 3) (q0 := 0) (v := .ref (α 1)) inX3 rfl rfl 0 (by decide) rfl fl_X3_7 dX3_fail_10 ?_
      refine r_iload_n X (j := 1) dX3_fail_13 rfl rfl ?_
      refine r_aload_n X (j := 0) dX3_fail_14 rfl rfl ?_
      refine r_get X (ci := 3) (q0 := 0) (v := .ref (α 14)) inX3 rfl rfl 17 (by decide) rfl fl_X3_50 dX3_fail_15 ?_
      refine r_iload_n X (j := 1) dX3_fail_18 rfl rfl ?_
      refine r_zald X (q0 := 14) (t0 := 1) (kk := 14) rfl rfl dX3_fail_19 ?_
      refine r_zast X (q0 := 1) (t0 := 1) (kk := 1) rfl (fun _ => rfl) rfl dX3_fail_20 ?_
      refine r_iinc X (j := 1) (v := (x1 + 1)) (lv' := [(1, .int (x1 + 1)), (0, .ref (α 0))]) dX3_fail_21 rfl rfl (by decide) rfl ?_
      refine r_goto X (tgt := 2) dX3_fail_24 (by decide) ?_
      refine r_sub (lv' := [(0, .ref (α 0)), (1, .int (x1 + 1))]) [1, 0] rfl ?_
      exact ih (x1 + 1) (wr σ 1 x1 (rd σ 14 x1))
set_option maxRecDepth 100000 in
set_option maxHeartbeats 4000000 in
theorem c_X3_fail (l : Launch) (D : va_G) (cI cZ : ClassId) (α : Nat → Nat) (A : Nat → Prop) (hJ : ∀ σ, va_D A ((kwM cI cZ α) σ)) (σ : KS) : Ct l D (tyA cI cZ) (kwM cI cZ α) A yX3_fail cX3_fail 2 (some .int) 0 vI [.ref (α 0)] σ (m_X3_fail σ) := by
  refine Ct.of (own := RX3) hJ (by decide) rfl (Nat.le_of_ble_eq_true rfl) ?_
  intro p e s m args below meth c X
  refine r_sub (lv' := [(0, .ref (α 0))]) [0] rfl ?_
  unfold m_X3_fail
  refine r_iconst X (v := 0) dX3_fail_0 (by decide) ?_
  refine r_istore_n X (lv' := [(1, .int 0), (0, .ref (α 0))]) dX3_fail_1 rfl (by decide) rfl ?_
  refine r_sub (lv' := [(0, .ref (α 0)), (1, .int 0)]) [1, 0] rfl ?_
  exact cl_X3_fail_2 l D cI cZ α A hJ X FU 0 σ
set_option maxRecDepth 100000 in
set_option maxHeartbeats 4000000 in
theorem cl_X3_free_30 (l : Launch) (D : va_G) (cI cZ : ClassId) (α : Nat → Nat) (A : Nat → Prop) (hJ : ∀ σ, va_D A ((kwM cI cZ α) σ)) {p : Program} {e : Env} {s : State} {m : MethodId} {args : Array Value} {below : List Frame} {meth : Method} {c : Code} (X : CX p s m args meth c cX3_free 6 RX3 D (tyA cI cZ) (kwM cI cZ α) A (some .int)) : ∀ (n : Nat) (x1 : Int32) (x2 : Int32) (x3 : Int32) (x4 : Int32) (x5 : Int32) (σ : KS), Cr p l e (rmd 0) s m args below meth c 6 D (kwM cI cZ α) A vI 30 [(0, .ref (α 0)), (1, .int x1), (2, .int x2), (3, .int x3), (4, .int x4), (5, .int x5)] [] σ (f_X3_free_30 n x1 x2 x3 x4 x5 σ) := by
  intro n
  induction n with
  | zero => intros; exact r_none
  | succ n ih =>
    intro x1 x2 x3 x4 x5 σ
    rw [f_X3_free_30]
    refine r_iload X (j := 5) dX3_free_30 rfl ?_
    refine r_sipush X (v := 128) dX3_free_32 (by decide) ?_
    refine r_icmp_ge X (tgt := 77) dX3_free_35 (by decide) (fun _ => ?_) (fun _ => ?_)
    · refine r_iload_n X (j := 2) dX3_free_77 rfl rfl ?_
      refine r_if_ne X (tgt := 85) dX3_free_78 (by decide) (fun _ => ?_) (fun _ => ?_)
      · refine r_iload_n X (j := 3) dX3_free_81 rfl rfl ?_
        refine r_goto X (tgt := 87) dX3_free_82 (by decide) ?_
        exact r_ireturn X dX3_free_87
      · refine r_iload X (j := 4) dX3_free_85 rfl ?_
        exact r_ireturn X dX3_free_87
    · refine r_aload_n X (j := 0) dX3_free_38 rfl rfl ?_
      refine r_get X (ci := 3) (q0 := 0) (v := .ref (α 1)) inX3 rfl rfl 0 (by decide) rfl fl_X3_7 dX3_free_39 ?_
      refine r_sipush X (v := 128) dX3_free_42 (by decide) ?_
      refine r_iload_n X (j := 1) dX3_free_45 rfl rfl ?_
      refine r_imul X dX3_free_46 ?_
      refine r_iload X (j := 5) dX3_free_47 rfl ?_
      refine r_iadd X dX3_free_49 ?_
      refine r_zald X (q0 := 1) (t0 := 1) (kk := 1) rfl rfl dX3_free_50 ?_
      refine r_if_eq X (tgt := 71) dX3_free_51 (by decide) (fun _ => ?_) (fun _ => ?_)
      · refine r_iinc X (j := 5) (v := (x5 + 1)) (lv' := [(5, .int (x5 + 1)), (0, .ref (α 0)), (1, .int x1), (2, .int x2), (3, .int x3), (4, .int x4)]) dX3_free_71 rfl rfl (by decide) rfl ?_
        refine r_goto X (tgt := 30) dX3_free_74 (by decide) ?_
        refine r_sub (lv' := [(0, .ref (α 0)), (1, .int x1), (2, .int x2), (3, .int x3), (4, .int x4), (5, .int (x5 + 1))]) [1, 2, 3, 4, 5, 0] rfl ?_
        exact ih x1 x2 x3 x4 (x5 + 1) σ
      · refine r_iinc X (j := 3) (v := (x3 + 1)) (lv' := [(3, .int (x3 + 1)), (0, .ref (α 0)), (1, .int x1), (2, .int x2), (4, .int x4), (5, .int x5)]) dX3_free_54 rfl rfl (by decide) rfl ?_
        refine r_iload X (j := 4) dX3_free_57 rfl ?_
        refine r_if_ge X (tgt := 67) dX3_free_59 (by decide) (fun _ => ?_) (fun _ => ?_)
        · refine r_iload X (j := 4) dX3_free_67 rfl ?_
          refine r_istore X (lv' := [(4, .int x4), (3, .int (x3 + 1)), (0, .ref (α 0)), (1, .int x1), (2, .int x2), (5, .int x5)]) dX3_free_69 (by decide) rfl ?_
          refine r_iinc X (j := 5) (v := (x5 + 1)) (lv' := [(5, .int (x5 + 1)), (4, .int x4), (3, .int (x3 + 1)), (0, .ref (α 0)), (1, .int x1), (2, .int x2)]) dX3_free_71 rfl rfl (by decide) rfl ?_
          refine r_goto X (tgt := 30) dX3_free_74 (by decide) ?_
          refine r_sub (lv' := [(0, .ref (α 0)), (1, .int x1), (2, .int x2), (3, .int (x3 + 1)), (4, .int x4), (5, .int (x5 + 1))]) [3, 4, 5, 2, 1, 0] rfl ?_
          exact ih x1 x2 (x3 + 1) x4 (x5 + 1) σ
        · refine r_iload X (j := 5) dX3_free_62 rfl ?_
          refine r_goto X (tgt := 69) dX3_free_64 (by decide) ?_
          refine r_istore X (lv' := [(4, .int x5), (3, .int (x3 + 1)), (0, .ref (α 0)), (1, .int x1), (2, .int x2), (5, .int x5)]) dX3_free_69 (by decide) rfl ?_
          refine r_iinc X (j := 5) (v := (x5 + 1)) (lv' := [(5, .int (x5 + 1)), (4, .int x5), (3, .int (x3 + 1)), (0, .ref (α 0)), (1, .int x1), (2, .int x2)]) dX3_free_71 rfl rfl (by decide) rfl ?_
          refine r_goto X (tgt := 30) dX3_free_74 (by decide) ?_
          refine r_sub (lv' := [(0, .ref (α 0)), (1, .int x1), (2, .int x2), (3, .int (x3 + 1)), (4, .int x5), (5, .int (x5 + 1))]) [3, 4, 5, 2, 1, 0] rfl ?_
          exact ih x1 x2 (x3 + 1) x5 (x5 + 1) σ
set_option maxRecDepth 100000 in
set_option maxHeartbeats 4000000 in
theorem c_X3_free (l : Launch) (D : va_G) (cI cZ : ClassId) (α : Nat → Nat) (A : Nat → Prop) (hJ : ∀ σ, va_D A ((kwM cI cZ α) σ)) (x1 x2 : Int32) (σ : KS) : Ct l D (tyA cI cZ) (kwM cI cZ α) A yX3_free cX3_free 6 (some .int) 0 vI [.ref (α 0), .int x1, .int x2] σ (m_X3_free x1 x2 σ) := by
  refine Ct.of (own := RX3) hJ (by decide) rfl (Nat.le_of_ble_eq_true rfl) ?_
  intro p e s m args below meth c X
  refine r_sub (lv' := [(0, .ref (α 0)), (1, .int x1), (2, .int x2)]) [0, 1, 2] rfl ?_
  unfold m_X3_free
  refine r_iload_n X (j := 1) dX3_free_0 rfl rfl ?_
  refine r_if_lt X (tgt := 19) dX3_free_1 (by decide) (fun _ => ?_) (fun _ => ?_)
  · refine r_bipush X (v := (-2)) dX3_free_19 (by decide) ?_
    exact r_ireturn X dX3_free_21
  · refine r_iload_n X (j := 1) dX3_free_4 rfl rfl ?_
    refine r_bipush X (v := 8) dX3_free_5 (by decide) ?_
    refine r_icmp_ge X (tgt := 19) dX3_free_7 (by decide) (fun _ => ?_) (fun _ => ?_)
    · refine r_bipush X (v := (-2)) dX3_free_19 (by decide) ?_
      exact r_ireturn X dX3_free_21
    · refine r_iload_n X (j := 2) dX3_free_10 rfl rfl ?_
      refine r_if_lt X (tgt := 19) dX3_free_11 (by decide) (fun _ => ?_) (fun _ => ?_)
      · refine r_bipush X (v := (-2)) dX3_free_19 (by decide) ?_
        exact r_ireturn X dX3_free_21
      · refine r_iload_n X (j := 2) dX3_free_14 rfl rfl ?_
        refine r_iconst X (v := 1) dX3_free_15 (by decide) ?_
        refine r_icmp_le X (tgt := 22) dX3_free_16 (by decide) (fun _ => ?_) (fun _ => ?_)
        · refine r_iconst X (v := 0) dX3_free_22 (by decide) ?_
          refine r_istore_n X (lv' := [(3, .int 0), (0, .ref (α 0)), (1, .int x1), (2, .int x2)]) dX3_free_23 rfl (by decide) rfl ?_
          refine r_iconst X (v := (-1)) dX3_free_24 (by decide) ?_
          refine r_istore X (lv' := [(4, .int (-1)), (3, .int 0), (0, .ref (α 0)), (1, .int x1), (2, .int x2)]) dX3_free_25 (by decide) rfl ?_
          refine r_iconst X (v := 0) dX3_free_27 (by decide) ?_
          refine r_istore X (lv' := [(5, .int 0), (4, .int (-1)), (3, .int 0), (0, .ref (α 0)), (1, .int x1), (2, .int x2)]) dX3_free_28 (by decide) rfl ?_
          refine r_sub (lv' := [(0, .ref (α 0)), (1, .int x1), (2, .int x2), (3, .int 0), (4, .int (-1)), (5, .int 0)]) [3, 4, 5, 2, 1, 0] rfl ?_
          exact cl_X3_free_30 l D cI cZ α A hJ X FU x1 x2 0 (-1) 0 σ
        · refine r_bipush X (v := (-2)) dX3_free_19 (by decide) ?_
          exact r_ireturn X dX3_free_21
set_option maxRecDepth 100000 in
set_option maxHeartbeats 4000000 in
theorem cl_X3_freeFrames_4 (l : Launch) (D : va_G) (cI cZ : ClassId) (α : Nat → Nat) (A : Nat → Prop) (hJ : ∀ σ, va_D A ((kwM cI cZ α) σ)) {p : Program} {e : Env} {s : State} {m : MethodId} {args : Array Value} {below : List Frame} {meth : Method} {c : Code} (X : CX p s m args meth c cX3_freeFrames 3 RX3 D (tyA cI cZ) (kwM cI cZ α) A (some .int)) : ∀ (n : Nat) (x1 : Int32) (x2 : Int32) (σ : KS), Cr p l e (rmd 0) s m args below meth c 3 D (kwM cI cZ α) A vI 4 [(0, .ref (α 0)), (1, .int x1), (2, .int x2)] [] σ (f_X3_freeFrames_4 n x1 x2 σ) := by
  intro n
  induction n with
  | zero => intros; exact r_none
  | succ n ih =>
    intro x1 x2 σ
    rw [f_X3_freeFrames_4]
    refine r_iload_n X (j := 2) dX3_freeFrames_4 rfl rfl ?_
    refine r_sipush X (v := 128) dX3_freeFrames_5 (by decide) ?_
    refine r_icmp_ge X (tgt := 34) dX3_freeFrames_8 (by decide) (fun _ => ?_) (fun _ => ?_)
    · refine r_iload_n X (j := 1) dX3_freeFrames_34 rfl rfl ?_
      exact r_ireturn X dX3_freeFrames_35
    · refine r_iload_n X (j := 1) dX3_freeFrames_11 rfl rfl ?_
      refine r_aload_n X (j := 0) dX3_freeFrames_12 rfl rfl ?_
      refine r_get X (ci := 3) (q0 := 0) (v := .ref (α 2)) inX3 rfl rfl 1 (by decide) rfl fl_X3_13 dX3_freeFrames_13 ?_
      refine r_iload_n X (j := 2) dX3_freeFrames_16 rfl rfl ?_
      refine r_iald X (q0 := 2) (t0 := 0) (kk := 2) rfl rfl dX3_freeFrames_17 ?_
      refine r_if_ne X (tgt := 25) dX3_freeFrames_18 (by decide) (fun _ => ?_) (fun _ => ?_)
      · refine r_iconst X (v := 1) dX3_freeFrames_21 (by decide) ?_
        refine r_goto X (tgt := 26) dX3_freeFrames_22 (by decide) ?_
        refine r_iadd X dX3_freeFrames_26 ?_
        refine r_istore_n X (lv' := [(1, .int (x1 + 1)), (0, .ref (α 0)), (2, .int x2)]) dX3_freeFrames_27 rfl (by decide) rfl ?_
        refine r_iinc X (j := 2) (v := (x2 + 1)) (lv' := [(2, .int (x2 + 1)), (1, .int (x1 + 1)), (0, .ref (α 0))]) dX3_freeFrames_28 rfl rfl (by decide) rfl ?_
        refine r_goto X (tgt := 4) dX3_freeFrames_31 (by decide) ?_
        refine r_sub (lv' := [(0, .ref (α 0)), (1, .int (x1 + 1)), (2, .int (x2 + 1))]) [2, 1, 0] rfl ?_
        exact ih (x1 + 1) (x2 + 1) σ
      · refine r_iconst X (v := 0) dX3_freeFrames_25 (by decide) ?_
        refine r_iadd X dX3_freeFrames_26 ?_
        refine r_istore_n X (lv' := [(1, .int (x1 + 0)), (0, .ref (α 0)), (2, .int x2)]) dX3_freeFrames_27 rfl (by decide) rfl ?_
        refine r_iinc X (j := 2) (v := (x2 + 1)) (lv' := [(2, .int (x2 + 1)), (1, .int (x1 + 0)), (0, .ref (α 0))]) dX3_freeFrames_28 rfl rfl (by decide) rfl ?_
        refine r_goto X (tgt := 4) dX3_freeFrames_31 (by decide) ?_
        refine r_sub (lv' := [(0, .ref (α 0)), (1, .int (x1 + 0)), (2, .int (x2 + 1))]) [2, 1, 0] rfl ?_
        exact ih (x1 + 0) (x2 + 1) σ
set_option maxRecDepth 100000 in
set_option maxHeartbeats 4000000 in
theorem c_X3_freeFrames (l : Launch) (D : va_G) (cI cZ : ClassId) (α : Nat → Nat) (A : Nat → Prop) (hJ : ∀ σ, va_D A ((kwM cI cZ α) σ)) (σ : KS) : Ct l D (tyA cI cZ) (kwM cI cZ α) A yX3_freeFrames cX3_freeFrames 3 (some .int) 0 vI [.ref (α 0)] σ (m_X3_freeFrames σ) := by
  refine Ct.of (own := RX3) hJ (by decide) rfl (Nat.le_of_ble_eq_true rfl) ?_
  intro p e s m args below meth c X
  refine r_sub (lv' := [(0, .ref (α 0))]) [0] rfl ?_
  unfold m_X3_freeFrames
  refine r_iconst X (v := 0) dX3_freeFrames_0 (by decide) ?_
  refine r_istore_n X (lv' := [(1, .int 0), (0, .ref (α 0))]) dX3_freeFrames_1 rfl (by decide) rfl ?_
  refine r_iconst X (v := 0) dX3_freeFrames_2 (by decide) ?_
  refine r_istore_n X (lv' := [(2, .int 0), (1, .int 0), (0, .ref (α 0))]) dX3_freeFrames_3 rfl (by decide) rfl ?_
  refine r_sub (lv' := [(0, .ref (α 0)), (1, .int 0), (2, .int 0)]) [2, 1, 0] rfl ?_
  exact cl_X3_freeFrames_4 l D cI cZ α A hJ X FU 0 0 σ
set_option maxRecDepth 100000 in
set_option maxHeartbeats 4000000 in
theorem cl_X3_freePlace_4 (l : Launch) (D : va_G) (cI cZ : ClassId) (α : Nat → Nat) (A : Nat → Prop) (hJ : ∀ σ, va_D A ((kwM cI cZ α) σ)) {p : Program} {e : Env} {s : State} {m : MethodId} {args : Array Value} {below : List Frame} {meth : Method} {c : Code} (X : CX p s m args meth c cX3_freePlace 3 RX3 D (tyA cI cZ) (kwM cI cZ α) A (some .int)) : ∀ (n : Nat) (x1 : Int32) (x2 : Int32) (σ : KS), Cr p l e (rmd 0) s m args below meth c 3 D (kwM cI cZ α) A vI 4 [(0, .ref (α 0)), (1, .int x1), (2, .int x2)] [] σ (f_X3_freePlace_4 n x1 x2 σ) := by
  intro n
  induction n with
  | zero => intros; exact r_none
  | succ n ih =>
    intro x1 x2 σ
    rw [f_X3_freePlace_4]
    refine r_iload_n X (j := 2) dX3_freePlace_4 rfl rfl ?_
    refine r_iconst X (v := 4) dX3_freePlace_5 (by decide) ?_
    refine r_iload_n X (j := 1) dX3_freePlace_6 rfl rfl ?_
    refine r_imul X dX3_freePlace_7 ?_
    refine r_iconst X (v := 4) dX3_freePlace_8 (by decide) ?_
    refine r_iadd X dX3_freePlace_9 ?_
    refine r_icmp_ge X (tgt := 30) dX3_freePlace_10 (by decide) (fun _ => ?_) (fun _ => ?_)
    · refine r_iconst X (v := (-1)) dX3_freePlace_30 (by decide) ?_
      exact r_ireturn X dX3_freePlace_31
    · refine r_aload_n X (j := 0) dX3_freePlace_13 rfl rfl ?_
      refine r_get X (ci := 3) (q0 := 0) (v := .ref (α 3)) inX3 rfl rfl 2 (by decide) rfl fl_X3_17 dX3_freePlace_14 ?_
      refine r_iload_n X (j := 2) dX3_freePlace_17 rfl rfl ?_
      refine r_zald X (q0 := 3) (t0 := 1) (kk := 3) rfl rfl dX3_freePlace_18 ?_
      refine r_if_ne X (tgt := 24) dX3_freePlace_19 (by decide) (fun _ => ?_) (fun _ => ?_)
      · refine r_iload_n X (j := 2) dX3_freePlace_22 rfl rfl ?_
        exact r_ireturn X dX3_freePlace_23
      · refine r_iinc X (j := 2) (v := (x2 + 1)) (lv' := [(2, .int (x2 + 1)), (0, .ref (α 0)), (1, .int x1)]) dX3_freePlace_24 rfl rfl (by decide) rfl ?_
        refine r_goto X (tgt := 4) dX3_freePlace_27 (by decide) ?_
        refine r_sub (lv' := [(0, .ref (α 0)), (1, .int x1), (2, .int (x2 + 1))]) [1, 2, 0] rfl ?_
        exact ih x1 (x2 + 1) σ
set_option maxRecDepth 100000 in
set_option maxHeartbeats 4000000 in
theorem c_X3_freePlace (l : Launch) (D : va_G) (cI cZ : ClassId) (α : Nat → Nat) (A : Nat → Prop) (hJ : ∀ σ, va_D A ((kwM cI cZ α) σ)) (x1 : Int32) (σ : KS) : Ct l D (tyA cI cZ) (kwM cI cZ α) A yX3_freePlace cX3_freePlace 3 (some .int) 0 vI [.ref (α 0), .int x1] σ (m_X3_freePlace x1 σ) := by
  refine Ct.of (own := RX3) hJ (by decide) rfl (Nat.le_of_ble_eq_true rfl) ?_
  intro p e s m args below meth c X
  refine r_sub (lv' := [(0, .ref (α 0)), (1, .int x1)]) [0, 1] rfl ?_
  unfold m_X3_freePlace
  refine r_iconst X (v := 4) dX3_freePlace_0 (by decide) ?_
  refine r_iload_n X (j := 1) dX3_freePlace_1 rfl rfl ?_
  refine r_imul X dX3_freePlace_2 ?_
  refine r_istore_n X (lv' := [(2, .int (4 * x1)), (0, .ref (α 0)), (1, .int x1)]) dX3_freePlace_3 rfl (by decide) rfl ?_
  refine r_sub (lv' := [(0, .ref (α 0)), (1, .int x1), (2, .int (4 * x1))]) [1, 2, 0] rfl ?_
  exact cl_X3_freePlace_4 l D cI cZ α A hJ X FU x1 (4 * x1) σ
set_option maxRecDepth 100000 in
set_option maxHeartbeats 4000000 in
theorem cl_X3_giveBlock_32 (l : Launch) (D : va_G) (cI cZ : ClassId) (α : Nat → Nat) (A : Nat → Prop) (hJ : ∀ σ, va_D A ((kwM cI cZ α) σ)) {p : Program} {e : Env} {s : State} {m : MethodId} {args : Array Value} {below : List Frame} {meth : Method} {c : Code} (X : CX p s m args meth c cX3_giveBlock 6 RX3 D (tyA cI cZ) (kwM cI cZ α) A none) : ∀ (n : Nat) (x1 : Int32) (x2 : Int32) (x3 : Int32) (x4 : Int32) (x5 : Int32) (σ : KS), Cr p l e (rmd 0) s m args below meth c 6 D (kwM cI cZ α) A vV 32 [(0, .ref (α 0)), (1, .int x1), (2, .int x2), (3, .int x3), (4, .int x4), (5, .int x5)] [] σ (f_X3_giveBlock_32 n x1 x2 x3 x4 x5 σ) := by
  intro n
  induction n with
  | zero => intros; exact r_none
  | succ n ih =>
    intro x1 x2 x3 x4 x5 σ
    rw [f_X3_giveBlock_32]
    refine r_iload X (j := 4) dX3_giveBlock_32 rfl ?_
    refine r_bipush X (v := 7) dX3_giveBlock_34 (by decide) ?_
    refine r_icmp_ge X (tgt := 94) dX3_giveBlock_36 (by decide) (fun _ => ?_) (fun _ => ?_)
    · refine r_aload_n X (j := 0) dX3_giveBlock_94 rfl rfl ?_
      refine r_get X (ci := 3) (q0 := 0) (v := .ref (α 1)) inX3 rfl rfl 0 (by decide) rfl fl_X3_7 dX3_giveBlock_95 ?_
      refine r_sipush X (v := 128) dX3_giveBlock_98 (by decide) ?_
      refine r_iload X (j := 4) dX3_giveBlock_101 rfl ?_
      refine r_imul X dX3_giveBlock_103 ?_
      refine r_iload_n X (j := 3) dX3_giveBlock_104 rfl rfl ?_
      refine r_iadd X dX3_giveBlock_105 ?_
      refine r_iconst X (v := 1) dX3_giveBlock_106 (by decide) ?_
      refine r_zast X (q0 := 1) (t0 := 1) (kk := 1) rfl (fun _ => rfl) rfl dX3_giveBlock_107 ?_
      exact r_return X dX3_giveBlock_108
    · refine r_aload_n X (j := 0) dX3_giveBlock_39 rfl rfl ?_
      refine r_get X (ci := 3) (q0 := 0) (v := .ref (α 1)) inX3 rfl rfl 0 (by decide) rfl fl_X3_7 dX3_giveBlock_40 ?_
      refine r_sipush X (v := 128) dX3_giveBlock_43 (by decide) ?_
      refine r_iload X (j := 4) dX3_giveBlock_46 rfl ?_
      refine r_imul X dX3_giveBlock_48 ?_
      refine r_iload_n X (j := 3) dX3_giveBlock_49 rfl rfl ?_
      refine r_iconst X (v := 1) dX3_giveBlock_50 (by decide) ?_
      refine r_iload X (j := 4) dX3_giveBlock_51 rfl ?_
      refine r_ishl X dX3_giveBlock_53 ?_
      refine r_ixor X dX3_giveBlock_54 ?_
      refine r_iadd X dX3_giveBlock_55 ?_
      refine r_zald X (q0 := 1) (t0 := 1) (kk := 1) rfl rfl dX3_giveBlock_56 ?_
      refine r_if_eq X (tgt := 94) dX3_giveBlock_57 (by decide) (fun _ => ?_) (fun _ => ?_)
      · refine r_aload_n X (j := 0) dX3_giveBlock_94 rfl rfl ?_
        refine r_get X (ci := 3) (q0 := 0) (v := .ref (α 1)) inX3 rfl rfl 0 (by decide) rfl fl_X3_7 dX3_giveBlock_95 ?_
        refine r_sipush X (v := 128) dX3_giveBlock_98 (by decide) ?_
        refine r_iload X (j := 4) dX3_giveBlock_101 rfl ?_
        refine r_imul X dX3_giveBlock_103 ?_
        refine r_iload_n X (j := 3) dX3_giveBlock_104 rfl rfl ?_
        refine r_iadd X dX3_giveBlock_105 ?_
        refine r_iconst X (v := 1) dX3_giveBlock_106 (by decide) ?_
        refine r_zast X (q0 := 1) (t0 := 1) (kk := 1) rfl (fun _ => rfl) rfl dX3_giveBlock_107 ?_
        exact r_return X dX3_giveBlock_108
      · refine r_aload_n X (j := 0) dX3_giveBlock_60 rfl rfl ?_
        refine r_get X (ci := 3) (q0 := 0) (v := .ref (α 1)) inX3 rfl rfl 0 (by decide) rfl fl_X3_7 dX3_giveBlock_61 ?_
        refine r_sipush X (v := 128) dX3_giveBlock_64 (by decide) ?_
        refine r_iload X (j := 4) dX3_giveBlock_67 rfl ?_
        refine r_imul X dX3_giveBlock_69 ?_
        refine r_iload_n X (j := 3) dX3_giveBlock_70 rfl rfl ?_
        refine r_iconst X (v := 1) dX3_giveBlock_71 (by decide) ?_
        refine r_iload X (j := 4) dX3_giveBlock_72 rfl ?_
        refine r_ishl X dX3_giveBlock_74 ?_
        refine r_ixor X dX3_giveBlock_75 ?_
        refine r_iadd X dX3_giveBlock_76 ?_
        refine r_iconst X (v := 0) dX3_giveBlock_77 (by decide) ?_
        refine r_zast X (q0 := 1) (t0 := 1) (kk := 1) rfl (fun _ => rfl) rfl dX3_giveBlock_78 ?_
        refine r_iload_n X (j := 3) dX3_giveBlock_79 rfl rfl ?_
        refine r_iconst X (v := 1) dX3_giveBlock_80 (by decide) ?_
        refine r_iload X (j := 4) dX3_giveBlock_81 rfl ?_
        refine r_ishl X dX3_giveBlock_83 ?_
        refine r_iconst X (v := (-1)) dX3_giveBlock_84 (by decide) ?_
        refine r_ixor X dX3_giveBlock_85 ?_
        refine r_iand X dX3_giveBlock_86 ?_
        refine r_istore_n X (lv' := [(3, .int (x3 &&& (((1 : Int32) <<< (x4 &&& 31)) ^^^ (-1)))), (0, .ref (α 0)), (1, .int x1), (2, .int x2), (4, .int x4), (5, .int x5)]) dX3_giveBlock_87 rfl (by decide) rfl ?_
        refine r_iinc X (j := 4) (v := (x4 + 1)) (lv' := [(4, .int (x4 + 1)), (3, .int (x3 &&& (((1 : Int32) <<< (x4 &&& 31)) ^^^ (-1)))), (0, .ref (α 0)), (1, .int x1), (2, .int x2), (5, .int x5)]) dX3_giveBlock_88 rfl rfl (by decide) rfl ?_
        refine r_goto X (tgt := 32) dX3_giveBlock_91 (by decide) ?_
        refine r_sub (lv' := [(0, .ref (α 0)), (1, .int x1), (2, .int x2), (3, .int (x3 &&& (((1 : Int32) <<< (x4 &&& 31)) ^^^ (-1)))), (4, .int (x4 + 1)), (5, .int x5)]) [2, 3, 4, 1, 0, 5] rfl ?_
        exact ih x1 x2 (x3 &&& (((1 : Int32) <<< (x4 &&& 31)) ^^^ (-1))) (x4 + 1) x5 (wr σ 1 ((128 * x4) + (x3 ^^^ ((1 : Int32) <<< (x4 &&& 31)))) 0)
set_option maxRecDepth 100000 in
set_option maxHeartbeats 4000000 in
theorem cl_X3_giveBlock_8 (l : Launch) (D : va_G) (cI cZ : ClassId) (α : Nat → Nat) (A : Nat → Prop) (hJ : ∀ σ, va_D A ((kwM cI cZ α) σ)) {p : Program} {e : Env} {s : State} {m : MethodId} {args : Array Value} {below : List Frame} {meth : Method} {c : Code} (X : CX p s m args meth c cX3_giveBlock 6 RX3 D (tyA cI cZ) (kwM cI cZ α) A none) : ∀ (n : Nat) (x1 : Int32) (x2 : Int32) (x3 : Int32) (x4 : Int32) (x5 : Int32) (σ : KS), Cr p l e (rmd 0) s m args below meth c 6 D (kwM cI cZ α) A vV 8 [(0, .ref (α 0)), (1, .int x1), (2, .int x2), (3, .int x3), (4, .int x4), (5, .int x5)] [] σ (f_X3_giveBlock_8 n x1 x2 x3 x4 x5 σ) := by
  intro n
  induction n with
  | zero => intros; exact r_none
  | succ n ih =>
    intro x1 x2 x3 x4 x5 σ
    rw [f_X3_giveBlock_8]
    refine r_iload X (j := 5) dX3_giveBlock_8 rfl ?_
    refine r_iload_n X (j := 1) dX3_giveBlock_10 rfl rfl ?_
    refine r_iconst X (v := 1) dX3_giveBlock_11 (by decide) ?_
    refine r_iload_n X (j := 2) dX3_giveBlock_12 rfl rfl ?_
    refine r_ishl X dX3_giveBlock_13 ?_
    refine r_iadd X dX3_giveBlock_14 ?_
    refine r_icmp_ge X (tgt := 32) dX3_giveBlock_15 (by decide) (fun _ => ?_) (fun _ => ?_)
    · refine r_sub (lv' := [(0, .ref (α 0)), (1, .int x1), (2, .int x2), (3, .int x3), (4, .int x4), (5, .int x5)]) [0, 1, 2, 3, 4, 5] rfl ?_
      exact cl_X3_giveBlock_32 l D cI cZ α A hJ X FU x1 x2 x3 x4 x5 σ
    · refine r_aload_n X (j := 0) dX3_giveBlock_18 rfl rfl ?_
      refine r_get X (ci := 3) (q0 := 0) (v := .ref (α 2)) inX3 rfl rfl 1 (by decide) rfl fl_X3_13 dX3_giveBlock_19 ?_
      refine r_iload X (j := 5) dX3_giveBlock_22 rfl ?_
      refine r_iconst X (v := 0) dX3_giveBlock_24 (by decide) ?_
      refine r_iast X (q0 := 2) (t0 := 0) (kk := 2) rfl (fun _ => rfl) rfl dX3_giveBlock_25 ?_
      refine r_iinc X (j := 5) (v := (x5 + 1)) (lv' := [(5, .int (x5 + 1)), (0, .ref (α 0)), (1, .int x1), (2, .int x2), (3, .int x3), (4, .int x4)]) dX3_giveBlock_26 rfl rfl (by decide) rfl ?_
      refine r_goto X (tgt := 8) dX3_giveBlock_29 (by decide) ?_
      refine r_sub (lv' := [(0, .ref (α 0)), (1, .int x1), (2, .int x2), (3, .int x3), (4, .int x4), (5, .int (x5 + 1))]) [1, 2, 3, 4, 5, 0] rfl ?_
      exact ih x1 x2 x3 x4 (x5 + 1) (wr σ 2 x5 0)
set_option maxRecDepth 100000 in
set_option maxHeartbeats 4000000 in
theorem c_X3_giveBlock (l : Launch) (D : va_G) (cI cZ : ClassId) (α : Nat → Nat) (A : Nat → Prop) (hJ : ∀ σ, va_D A ((kwM cI cZ α) σ)) (x1 x2 : Int32) (σ : KS) : Ct l D (tyA cI cZ) (kwM cI cZ α) A yX3_giveBlock cX3_giveBlock 6 none 0 vV [.ref (α 0), .int x1, .int x2] σ (m_X3_giveBlock x1 x2 σ) := by
  refine Ct.of (own := RX3) hJ (by decide) rfl (Nat.le_of_ble_eq_true rfl) ?_
  intro p e s m args below meth c X
  refine r_sub (lv' := [(0, .ref (α 0)), (1, .int x1), (2, .int x2)]) [0, 1, 2] rfl ?_
  unfold m_X3_giveBlock
  refine r_iload_n X (j := 1) dX3_giveBlock_0 rfl rfl ?_
  refine r_istore_n X (lv' := [(3, .int x1), (0, .ref (α 0)), (1, .int x1), (2, .int x2)]) dX3_giveBlock_1 rfl (by decide) rfl ?_
  refine r_iload_n X (j := 3) dX3_giveBlock_2 rfl rfl ?_
  refine r_istore X (lv' := [(4, .int x2), (3, .int x1), (0, .ref (α 0)), (1, .int x1), (2, .int x2)]) dX3_giveBlock_3 (by decide) rfl ?_
  refine r_iload_n X (j := 3) dX3_giveBlock_5 rfl rfl ?_
  refine r_istore X (lv' := [(5, .int x1), (4, .int x2), (3, .int x1), (0, .ref (α 0)), (1, .int x1), (2, .int x2)]) dX3_giveBlock_6 (by decide) rfl ?_
  refine r_sub (lv' := [(0, .ref (α 0)), (1, .int x1), (2, .int x2), (3, .int x1), (4, .int x2), (5, .int x1)]) [3, 4, 5, 2, 1, 0] rfl ?_
  exact cl_X3_giveBlock_8 l D cI cZ α A hJ X FU x1 x2 x1 x2 x1 σ
set_option maxRecDepth 100000 in
set_option maxHeartbeats 4000000 in
theorem c_X3_isLive (l : Launch) (D : va_G) (cI cZ : ClassId) (α : Nat → Nat) (A : Nat → Prop) (hJ : ∀ σ, va_D A ((kwM cI cZ α) σ)) (x1 : Int32) (σ : KS) : Ct l D (tyA cI cZ) (kwM cI cZ α) A yX3_isLive cX3_isLive 2 (some .boolean) 0 vI [.ref (α 0), .int x1] σ (m_X3_isLive x1 σ) := by
  refine Ct.of (own := RX3) hJ (by decide) rfl (Nat.le_of_ble_eq_true rfl) ?_
  intro p e s m args below meth c X
  refine r_sub (lv' := [(0, .ref (α 0)), (1, .int x1)]) [0, 1] rfl ?_
  unfold m_X3_isLive
  refine r_iload_n X (j := 1) dX3_isLive_0 rfl rfl ?_
  refine r_if_lt X (tgt := 24) dX3_isLive_1 (by decide) (fun _ => ?_) (fun _ => ?_)
  · refine r_iconst X (v := 0) dX3_isLive_24 (by decide) ?_
    exact r_zreturn X (by decide) dX3_isLive_25
  · refine r_iload_n X (j := 1) dX3_isLive_4 rfl rfl ?_
    refine r_bipush X (v := 16) dX3_isLive_5 (by decide) ?_
    refine r_icmp_ge X (tgt := 24) dX3_isLive_7 (by decide) (fun _ => ?_) (fun _ => ?_)
    · refine r_iconst X (v := 0) dX3_isLive_24 (by decide) ?_
      exact r_zreturn X (by decide) dX3_isLive_25
    · refine r_aload_n X (j := 0) dX3_isLive_10 rfl rfl ?_
      refine r_get X (ci := 3) (q0 := 0) (v := .ref (α 6)) inX3 rfl rfl 5 (by decide) rfl fl_X3_26 dX3_isLive_11 ?_
      refine r_iload_n X (j := 1) dX3_isLive_14 rfl rfl ?_
      refine r_iald X (q0 := 6) (t0 := 0) (kk := 6) rfl rfl dX3_isLive_15 ?_
      refine r_iconst X (v := 1) dX3_isLive_16 (by decide) ?_
      refine r_icmp_ne X (tgt := 24) dX3_isLive_17 (by decide) (fun _ => ?_) (fun _ => ?_)
      · refine r_iconst X (v := 1) dX3_isLive_20 (by decide) ?_
        refine r_goto X (tgt := 25) dX3_isLive_21 (by decide) ?_
        exact r_zreturn X (by decide) dX3_isLive_25
      · refine r_iconst X (v := 0) dX3_isLive_24 (by decide) ?_
        exact r_zreturn X (by decide) dX3_isLive_25
set_option maxRecDepth 100000 in
set_option maxHeartbeats 4000000 in
theorem cl_X3_layAside_56 (l : Launch) (D : va_G) (cI cZ : ClassId) (α : Nat → Nat) (A : Nat → Prop) (hJ : ∀ σ, va_D A ((kwM cI cZ α) σ)) {p : Program} {e : Env} {s : State} {m : MethodId} {args : Array Value} {below : List Frame} {meth : Method} {c : Code} (X : CX p s m args meth c cX3_layAside 2 RX3 D (tyA cI cZ) (kwM cI cZ α) A none) : ∀ (n : Nat) (x1 : Int32) (σ : KS), Cr p l e (rmd 0) s m args below meth c 2 D (kwM cI cZ α) A vV 56 [(0, .ref (α 0)), (1, .int x1)] [] σ (f_X3_layAside_56 n x1 σ) := by
  intro n
  induction n with
  | zero => intros; exact r_none
  | succ n ih =>
    intro x1 σ
    rw [f_X3_layAside_56]
    refine r_iload_n X (j := 1) dX3_layAside_56 rfl rfl ?_
    refine r_sipush X (v := 512) dX3_layAside_57 (by decide) ?_
    refine r_icmp_ge X (tgt := 81) dX3_layAside_60 (by decide) (fun _ => ?_) (fun _ => ?_)
    · exact r_return X dX3_layAside_81
    · refine r_aload_n X (j := 0) dX3_layAside_63 rfl rfl ?_
      refine r_get X (ci := 3) (q0 := 0) (v := .ref (α 16)) inX3 rfl rfl 19 (by decide) rfl fl_X3_56 dX3_layAside_64 ?_
      refine r_iload_n X (j := 1) dX3_layAside_67 rfl rfl ?_
      refine r_aload_n X (j := 0) dX3_layAside_68 rfl rfl ?_
      refine r_get X (ci := 3) (q0 := 0) (v := .ref (α 3)) inX3 rfl rfl 2 (by decide) rfl fl_X3_17 dX3_layAside_69 ?_
      refine r_iload_n X (j := 1) dX3_layAside_72 rfl rfl ?_
      refine r_zald X (q0 := 3) (t0 := 1) (kk := 3) rfl rfl dX3_layAside_73 ?_
      refine r_zast X (q0 := 16) (t0 := 1) (kk := 16) rfl (fun _ => rfl) rfl dX3_layAside_74 ?_
      refine r_iinc X (j := 1) (v := (x1 + 1)) (lv' := [(1, .int (x1 + 1)), (0, .ref (α 0))]) dX3_layAside_75 rfl rfl (by decide) rfl ?_
      refine r_goto X (tgt := 56) dX3_layAside_78 (by decide) ?_
      refine r_sub (lv' := [(0, .ref (α 0)), (1, .int (x1 + 1))]) [1, 0] rfl ?_
      exact ih (x1 + 1) (wr σ 16 x1 (rd σ 3 x1))
set_option maxRecDepth 100000 in
set_option maxHeartbeats 4000000 in
theorem cl_X3_layAside_29 (l : Launch) (D : va_G) (cI cZ : ClassId) (α : Nat → Nat) (A : Nat → Prop) (hJ : ∀ σ, va_D A ((kwM cI cZ α) σ)) {p : Program} {e : Env} {s : State} {m : MethodId} {args : Array Value} {below : List Frame} {meth : Method} {c : Code} (X : CX p s m args meth c cX3_layAside 2 RX3 D (tyA cI cZ) (kwM cI cZ α) A none) : ∀ (n : Nat) (x1 : Int32) (σ : KS), Cr p l e (rmd 0) s m args below meth c 2 D (kwM cI cZ α) A vV 29 [(0, .ref (α 0)), (1, .int x1)] [] σ (f_X3_layAside_29 n x1 σ) := by
  intro n
  induction n with
  | zero => intros; exact r_none
  | succ n ih =>
    intro x1 σ
    rw [f_X3_layAside_29]
    refine r_iload_n X (j := 1) dX3_layAside_29 rfl rfl ?_
    refine r_sipush X (v := 128) dX3_layAside_30 (by decide) ?_
    refine r_icmp_ge X (tgt := 54) dX3_layAside_33 (by decide) (fun _ => ?_) (fun _ => ?_)
    · refine r_iconst X (v := 0) dX3_layAside_54 (by decide) ?_
      refine r_istore_n X (lv' := [(1, .int 0), (0, .ref (α 0))]) dX3_layAside_55 rfl (by decide) rfl ?_
      refine r_sub (lv' := [(0, .ref (α 0)), (1, .int 0)]) [1, 0] rfl ?_
      exact cl_X3_layAside_56 l D cI cZ α A hJ X FU 0 σ
    · refine r_aload_n X (j := 0) dX3_layAside_36 rfl rfl ?_
      refine r_get X (ci := 3) (q0 := 0) (v := .ref (α 15)) inX3 rfl rfl 18 (by decide) rfl fl_X3_53 dX3_layAside_37 ?_
      refine r_iload_n X (j := 1) dX3_layAside_40 rfl rfl ?_
      refine r_aload_n X (j := 0) dX3_layAside_41 rfl rfl ?_
      refine r_get X (ci := 3) (q0 := 0) (v := .ref (α 2)) inX3 rfl rfl 1 (by decide) rfl fl_X3_13 dX3_layAside_42 ?_
      refine r_iload_n X (j := 1) dX3_layAside_45 rfl rfl ?_
      refine r_iald X (q0 := 2) (t0 := 0) (kk := 2) rfl rfl dX3_layAside_46 ?_
      refine r_iast X (q0 := 15) (t0 := 0) (kk := 15) rfl (fun _ => rfl) rfl dX3_layAside_47 ?_
      refine r_iinc X (j := 1) (v := (x1 + 1)) (lv' := [(1, .int (x1 + 1)), (0, .ref (α 0))]) dX3_layAside_48 rfl rfl (by decide) rfl ?_
      refine r_goto X (tgt := 29) dX3_layAside_51 (by decide) ?_
      refine r_sub (lv' := [(0, .ref (α 0)), (1, .int (x1 + 1))]) [1, 0] rfl ?_
      exact ih (x1 + 1) (wr σ 15 x1 (rd σ 2 x1))
set_option maxRecDepth 100000 in
set_option maxHeartbeats 4000000 in
theorem cl_X3_layAside_2 (l : Launch) (D : va_G) (cI cZ : ClassId) (α : Nat → Nat) (A : Nat → Prop) (hJ : ∀ σ, va_D A ((kwM cI cZ α) σ)) {p : Program} {e : Env} {s : State} {m : MethodId} {args : Array Value} {below : List Frame} {meth : Method} {c : Code} (X : CX p s m args meth c cX3_layAside 2 RX3 D (tyA cI cZ) (kwM cI cZ α) A none) : ∀ (n : Nat) (x1 : Int32) (σ : KS), Cr p l e (rmd 0) s m args below meth c 2 D (kwM cI cZ α) A vV 2 [(0, .ref (α 0)), (1, .int x1)] [] σ (f_X3_layAside_2 n x1 σ) := by
  intro n
  induction n with
  | zero => intros; exact r_none
  | succ n ih =>
    intro x1 σ
    rw [f_X3_layAside_2]
    refine r_iload_n X (j := 1) dX3_layAside_2 rfl rfl ?_
    refine r_sipush X (v := 1024) dX3_layAside_3 (by decide) ?_
    refine r_icmp_ge X (tgt := 27) dX3_layAside_6 (by decide) (fun _ => ?_) (fun _ => ?_)
    · refine r_iconst X (v := 0) dX3_layAside_27 (by decide) ?_
      refine r_istore_n X (lv' := [(1, .int 0), (0, .ref (α 0))]) dX3_layAside_28 rfl (by decide) rfl ?_
      refine r_sub (lv' := [(0, .ref (α 0)), (1, .int 0)]) [1, 0] rfl ?_
      exact cl_X3_layAside_29 l D cI cZ α A hJ X FU 0 σ
    · refine r_aload_n X (j := 0) dX3_layAside_9 rfl rfl ?_
      refine r_get X (ci := 3) (q0 := 0) (v := .ref (α 14)) inX3 rfl rfl 17 (by decide) rfl fl_X3_50 dX3_layAside_10 ?_
      refine r_iload_n X (j := 1) dX3_layAside_13 rfl rfl ?_
      refine r_aload_n X (j := 0) dX3_layAside_14 rfl rfl ?_
      refine r_get X (ci := 3) (q0 := 0) (v := .ref (α 1)) inX3 rfl rfl 0 (by decide) rfl fl_X3_7 dX3_layAside_15 ?_
      refine r_iload_n X (j := 1) dX3_layAside_18 rfl rfl ?_
      refine r_zald X (q0 := 1) (t0 := 1) (kk := 1) rfl rfl dX3_layAside_19 ?_
      refine r_zast X (q0 := 14) (t0 := 1) (kk := 14) rfl (fun _ => rfl) rfl dX3_layAside_20 ?_
      refine r_iinc X (j := 1) (v := (x1 + 1)) (lv' := [(1, .int (x1 + 1)), (0, .ref (α 0))]) dX3_layAside_21 rfl rfl (by decide) rfl ?_
      refine r_goto X (tgt := 2) dX3_layAside_24 (by decide) ?_
      refine r_sub (lv' := [(0, .ref (α 0)), (1, .int (x1 + 1))]) [1, 0] rfl ?_
      exact ih (x1 + 1) (wr σ 14 x1 (rd σ 1 x1))
set_option maxRecDepth 100000 in
set_option maxHeartbeats 4000000 in
theorem c_X3_layAside (l : Launch) (D : va_G) (cI cZ : ClassId) (α : Nat → Nat) (A : Nat → Prop) (hJ : ∀ σ, va_D A ((kwM cI cZ α) σ)) (σ : KS) : Ct l D (tyA cI cZ) (kwM cI cZ α) A yX3_layAside cX3_layAside 2 none 0 vV [.ref (α 0)] σ (m_X3_layAside σ) := by
  refine Ct.of (own := RX3) hJ (by decide) rfl (Nat.le_of_ble_eq_true rfl) ?_
  intro p e s m args below meth c X
  refine r_sub (lv' := [(0, .ref (α 0))]) [0] rfl ?_
  unfold m_X3_layAside
  refine r_iconst X (v := 0) dX3_layAside_0 (by decide) ?_
  refine r_istore_n X (lv' := [(1, .int 0), (0, .ref (α 0))]) dX3_layAside_1 rfl (by decide) rfl ?_
  refine r_sub (lv' := [(0, .ref (α 0)), (1, .int 0)]) [1, 0] rfl ?_
  exact cl_X3_layAside_2 l D cI cZ α A hJ X FU 0 σ
set_option maxRecDepth 100000 in
set_option maxHeartbeats 4000000 in
theorem cl_X3_placeInRow_2 (l : Launch) (D : va_G) (cI cZ : ClassId) (α : Nat → Nat) (A : Nat → Prop) (hJ : ∀ σ, va_D A ((kwM cI cZ α) σ)) {p : Program} {e : Env} {s : State} {m : MethodId} {args : Array Value} {below : List Frame} {meth : Method} {c : Code} (X : CX p s m args meth c cX3_placeInRow 3 RX3 D (tyA cI cZ) (kwM cI cZ α) A (some .int)) : ∀ (n : Nat) (x1 : Int32) (x2 : Int32) (σ : KS), Cr p l e (rmd 0) s m args below meth c 3 D (kwM cI cZ α) A vI 2 [(0, .ref (α 0)), (1, .int x1), (2, .int x2)] [] σ (f_X3_placeInRow_2 n x1 x2 σ) := by
  intro n
  induction n with
  | zero => intros; exact r_none
  | succ n ih =>
    intro x1 x2 σ
    rw [f_X3_placeInRow_2]
    refine r_iload_n X (j := 2) dX3_placeInRow_2 rfl rfl ?_
    refine r_aload_n X (j := 0) dX3_placeInRow_3 rfl rfl ?_
    refine r_get X (ci := 3) (q0 := 0) (v := .int (gv σ 0)) inX3 rfl rfl 13 (by decide) rfl fl_X3_80 dX3_placeInRow_4 ?_
    refine r_icmp_ge X (tgt := 28) dX3_placeInRow_7 (by decide) (fun _ => ?_) (fun _ => ?_)
    · refine r_iconst X (v := (-1)) dX3_placeInRow_28 (by decide) ?_
      exact r_ireturn X dX3_placeInRow_29
    · refine r_aload_n X (j := 0) dX3_placeInRow_10 rfl rfl ?_
      refine r_get X (ci := 3) (q0 := 0) (v := .ref (α 13)) inX3 rfl rfl 12 (by decide) rfl fl_X3_47 dX3_placeInRow_11 ?_
      refine r_iload_n X (j := 2) dX3_placeInRow_14 rfl rfl ?_
      refine r_iald X (q0 := 13) (t0 := 0) (kk := 13) rfl rfl dX3_placeInRow_15 ?_
      refine r_iload_n X (j := 1) dX3_placeInRow_16 rfl rfl ?_
      refine r_icmp_ne X (tgt := 22) dX3_placeInRow_17 (by decide) (fun _ => ?_) (fun _ => ?_)
      · refine r_iload_n X (j := 2) dX3_placeInRow_20 rfl rfl ?_
        exact r_ireturn X dX3_placeInRow_21
      · refine r_iinc X (j := 2) (v := (x2 + 1)) (lv' := [(2, .int (x2 + 1)), (0, .ref (α 0)), (1, .int x1)]) dX3_placeInRow_22 rfl rfl (by decide) rfl ?_
        refine r_goto X (tgt := 2) dX3_placeInRow_25 (by decide) ?_
        refine r_sub (lv' := [(0, .ref (α 0)), (1, .int x1), (2, .int (x2 + 1))]) [1, 2, 0] rfl ?_
        exact ih x1 (x2 + 1) σ
set_option maxRecDepth 100000 in
set_option maxHeartbeats 4000000 in
theorem c_X3_placeInRow (l : Launch) (D : va_G) (cI cZ : ClassId) (α : Nat → Nat) (A : Nat → Prop) (hJ : ∀ σ, va_D A ((kwM cI cZ α) σ)) (x1 : Int32) (σ : KS) : Ct l D (tyA cI cZ) (kwM cI cZ α) A yX3_placeInRow cX3_placeInRow 3 (some .int) 0 vI [.ref (α 0), .int x1] σ (m_X3_placeInRow x1 σ) := by
  refine Ct.of (own := RX3) hJ (by decide) rfl (Nat.le_of_ble_eq_true rfl) ?_
  intro p e s m args below meth c X
  refine r_sub (lv' := [(0, .ref (α 0)), (1, .int x1)]) [0, 1] rfl ?_
  unfold m_X3_placeInRow
  refine r_iconst X (v := 0) dX3_placeInRow_0 (by decide) ?_
  refine r_istore_n X (lv' := [(2, .int 0), (0, .ref (α 0)), (1, .int x1)]) dX3_placeInRow_1 rfl (by decide) rfl ?_
  refine r_sub (lv' := [(0, .ref (α 0)), (1, .int x1), (2, .int 0)]) [1, 2, 0] rfl ?_
  exact cl_X3_placeInRow_2 l D cI cZ α A hJ X FU x1 0 σ
set_option maxRecDepth 100000 in
set_option maxHeartbeats 4000000 in
theorem cl_X3_smallIn_6 (l : Launch) (D : va_G) (cI cZ : ClassId) (α : Nat → Nat) (A : Nat → Prop) (hJ : ∀ σ, va_D A ((kwM cI cZ α) σ)) {p : Program} {e : Env} {s : State} {m : MethodId} {args : Array Value} {below : List Frame} {meth : Method} {c : Code} (X : CX p s m args meth c cX3_smallIn 4 RX3 D (tyA cI cZ) (kwM cI cZ α) A (some .int)) : ∀ (n : Nat) (x1 : Int32) (x2 : Int32) (x3 : Int32) (σ : KS), Cr p l e (rmd 0) s m args below meth c 4 D (kwM cI cZ α) A vI 6 [(0, .ref (α 0)), (1, .int x1), (2, .int x2), (3, .int x3)] [] σ (f_X3_smallIn_6 n x1 x2 x3 σ) := by
  intro n
  induction n with
  | zero => intros; exact r_none
  | succ n ih =>
    intro x1 x2 x3 σ
    rw [f_X3_smallIn_6]
    refine r_iload_n X (j := 3) dX3_smallIn_6 rfl rfl ?_
    refine r_iconst X (v := 4) dX3_smallIn_7 (by decide) ?_
    refine r_iload_n X (j := 1) dX3_smallIn_8 rfl rfl ?_
    refine r_imul X dX3_smallIn_9 ?_
    refine r_iconst X (v := 4) dX3_smallIn_10 (by decide) ?_
    refine r_iadd X dX3_smallIn_11 ?_
    refine r_icmp_ge X (tgt := 38) dX3_smallIn_12 (by decide) (fun _ => ?_) (fun _ => ?_)
    · refine r_iload_n X (j := 2) dX3_smallIn_38 rfl rfl ?_
      exact r_ireturn X dX3_smallIn_39
    · refine r_iload_n X (j := 2) dX3_smallIn_15 rfl rfl ?_
      refine r_aload_n X (j := 0) dX3_smallIn_16 rfl rfl ?_
      refine r_get X (ci := 3) (q0 := 0) (v := .ref (α 3)) inX3 rfl rfl 2 (by decide) rfl fl_X3_17 dX3_smallIn_17 ?_
      refine r_iload_n X (j := 3) dX3_smallIn_20 rfl rfl ?_
      refine r_zald X (q0 := 3) (t0 := 1) (kk := 3) rfl rfl dX3_smallIn_21 ?_
      refine r_if_eq X (tgt := 29) dX3_smallIn_22 (by decide) (fun _ => ?_) (fun _ => ?_)
      · refine r_iconst X (v := 0) dX3_smallIn_29 (by decide) ?_
        refine r_iadd X dX3_smallIn_30 ?_
        refine r_istore_n X (lv' := [(2, .int (x2 + 0)), (0, .ref (α 0)), (1, .int x1), (3, .int x3)]) dX3_smallIn_31 rfl (by decide) rfl ?_
        refine r_iinc X (j := 3) (v := (x3 + 1)) (lv' := [(3, .int (x3 + 1)), (2, .int (x2 + 0)), (0, .ref (α 0)), (1, .int x1)]) dX3_smallIn_32 rfl rfl (by decide) rfl ?_
        refine r_goto X (tgt := 6) dX3_smallIn_35 (by decide) ?_
        refine r_sub (lv' := [(0, .ref (α 0)), (1, .int x1), (2, .int (x2 + 0)), (3, .int (x3 + 1))]) [2, 3, 1, 0] rfl ?_
        exact ih x1 (x2 + 0) (x3 + 1) σ
      · refine r_iconst X (v := 1) dX3_smallIn_25 (by decide) ?_
        refine r_goto X (tgt := 30) dX3_smallIn_26 (by decide) ?_
        refine r_iadd X dX3_smallIn_30 ?_
        refine r_istore_n X (lv' := [(2, .int (x2 + 1)), (0, .ref (α 0)), (1, .int x1), (3, .int x3)]) dX3_smallIn_31 rfl (by decide) rfl ?_
        refine r_iinc X (j := 3) (v := (x3 + 1)) (lv' := [(3, .int (x3 + 1)), (2, .int (x2 + 1)), (0, .ref (α 0)), (1, .int x1)]) dX3_smallIn_32 rfl rfl (by decide) rfl ?_
        refine r_goto X (tgt := 6) dX3_smallIn_35 (by decide) ?_
        refine r_sub (lv' := [(0, .ref (α 0)), (1, .int x1), (2, .int (x2 + 1)), (3, .int (x3 + 1))]) [2, 3, 1, 0] rfl ?_
        exact ih x1 (x2 + 1) (x3 + 1) σ
set_option maxRecDepth 100000 in
set_option maxHeartbeats 4000000 in
theorem c_X3_smallIn (l : Launch) (D : va_G) (cI cZ : ClassId) (α : Nat → Nat) (A : Nat → Prop) (hJ : ∀ σ, va_D A ((kwM cI cZ α) σ)) (x1 : Int32) (σ : KS) : Ct l D (tyA cI cZ) (kwM cI cZ α) A yX3_smallIn cX3_smallIn 4 (some .int) 0 vI [.ref (α 0), .int x1] σ (m_X3_smallIn x1 σ) := by
  refine Ct.of (own := RX3) hJ (by decide) rfl (Nat.le_of_ble_eq_true rfl) ?_
  intro p e s m args below meth c X
  refine r_sub (lv' := [(0, .ref (α 0)), (1, .int x1)]) [0, 1] rfl ?_
  unfold m_X3_smallIn
  refine r_iconst X (v := 0) dX3_smallIn_0 (by decide) ?_
  refine r_istore_n X (lv' := [(2, .int 0), (0, .ref (α 0)), (1, .int x1)]) dX3_smallIn_1 rfl (by decide) rfl ?_
  refine r_iconst X (v := 4) dX3_smallIn_2 (by decide) ?_
  refine r_iload_n X (j := 2) dX3_smallIn_3 rfl rfl ?_
  refine r_imul X dX3_smallIn_4 ?_
  refine r_istore_n X (lv' := [(3, .int (4 * x1)), (2, .int 0), (0, .ref (α 0)), (1, .int x1)]) dX3_smallIn_5 rfl (by decide) rfl ?_
  refine r_sub (lv' := [(0, .ref (α 0)), (1, .int x1), (2, .int 0), (3, .int (4 * x1))]) [2, 3, 1, 0] rfl ?_
  exact cl_X3_smallIn_6 l D cI cZ α A hJ X FU x1 0 (4 * x1) σ
end
section
set_option maxRecDepth 100000 in
set_option maxHeartbeats 4000000 in
theorem cl_X3_takeBlock_50 (l : Launch) (D : va_G) (cI cZ : ClassId) (α : Nat → Nat) (A : Nat → Prop) (hJ : ∀ σ, va_D A ((kwM cI cZ α) σ)) {p : Program} {e : Env} {s : State} {m : MethodId} {args : Array Value} {below : List Frame} {meth : Method} {c : Code} (X : CX p s m args meth c cX3_takeBlock 5 RX3 D (tyA cI cZ) (kwM cI cZ α) A (some .int)) : ∀ (n : Nat) (x1 : Int32) (x2 : Int32) (x3 : Int32) (x4 : Int32) (σ : KS), Cr p l e (rmd 0) s m args below meth c 5 D (kwM cI cZ α) A vI 50 [(0, .ref (α 0)), (1, .int x1), (2, .int x2), (3, .int x3), (4, .int x4)] [] σ (f_X3_takeBlock_50 n x1 x2 x3 x4 σ) := by
  intro n
  induction n with
  | zero => intros; exact r_none
  | succ n ih =>
    intro x1 x2 x3 x4 σ
    rw [f_X3_takeBlock_50]
    refine r_iload X (j := 4) dX3_takeBlock_50 rfl ?_
    refine r_iload_n X (j := 1) dX3_takeBlock_52 rfl rfl ?_
    refine r_icmp_lt X (tgt := 81) dX3_takeBlock_53 (by decide) (fun _ => ?_) (fun _ => ?_)
    · refine r_iload_n X (j := 3) dX3_takeBlock_81 rfl rfl ?_
      exact r_ireturn X dX3_takeBlock_82
    · refine r_aload_n X (j := 0) dX3_takeBlock_56 rfl rfl ?_
      refine r_get X (ci := 3) (q0 := 0) (v := .ref (α 1)) inX3 rfl rfl 0 (by decide) rfl fl_X3_7 dX3_takeBlock_57 ?_
      refine r_sipush X (v := 128) dX3_takeBlock_60 (by decide) ?_
      refine r_iload X (j := 4) dX3_takeBlock_63 rfl ?_
      refine r_imul X dX3_takeBlock_65 ?_
      refine r_iload_n X (j := 3) dX3_takeBlock_66 rfl rfl ?_
      refine r_iadd X dX3_takeBlock_67 ?_
      refine r_iconst X (v := 1) dX3_takeBlock_68 (by decide) ?_
      refine r_iload X (j := 4) dX3_takeBlock_69 rfl ?_
      refine r_ishl X dX3_takeBlock_71 ?_
      refine r_iadd X dX3_takeBlock_72 ?_
      refine r_iconst X (v := 1) dX3_takeBlock_73 (by decide) ?_
      refine r_zast X (q0 := 1) (t0 := 1) (kk := 1) rfl (fun _ => rfl) rfl dX3_takeBlock_74 ?_
      refine r_iinc X (j := 4) (v := (x4 + (-1))) (lv' := [(4, .int (x4 + (-1))), (0, .ref (α 0)), (1, .int x1), (2, .int x2), (3, .int x3)]) dX3_takeBlock_75 rfl rfl (by decide) rfl ?_
      refine r_goto X (tgt := 50) dX3_takeBlock_78 (by decide) ?_
      refine r_sub (lv' := [(0, .ref (α 0)), (1, .int x1), (2, .int x2), (3, .int x3), (4, .int (x4 + (-1)))]) [1, 2, 3, 4, 0] rfl ?_
      exact ih x1 x2 x3 (x4 + (-1)) (wr σ 1 (((128 * x4) + x3) + ((1 : Int32) <<< (x4 &&& 31))) 1)
set_option maxRecDepth 100000 in
set_option maxHeartbeats 4000000 in
theorem cl_X3_takeBlock_10 (l : Launch) (D : va_G) (cI cZ : ClassId) (α : Nat → Nat) (A : Nat → Prop) (hJ : ∀ σ, va_D A ((kwM cI cZ α) σ)) {p : Program} {e : Env} {s : State} {m : MethodId} {args : Array Value} {below : List Frame} {meth : Method} {c : Code} (X : CX p s m args meth c cX3_takeBlock 5 RX3 D (tyA cI cZ) (kwM cI cZ α) A (some .int)) (kk : Int32 → Int32 → KS → KR) (hkk : ∀ (y1 : Int32) (y2 : Int32) (σ : KS), Cr p l e (rmd 0) s m args below meth c 5 D (kwM cI cZ α) A vI 2 [(0, .ref (α 0)), (1, .int y1), (2, .int y2)] [] σ (kk y1 y2 σ)) : ∀ (n : Nat) (x1 : Int32) (x2 : Int32) (x3 : Int32) (σ : KS), Cr p l e (rmd 0) s m args below meth c 5 D (kwM cI cZ α) A vI 10 [(0, .ref (α 0)), (1, .int x1), (2, .int x2), (3, .int x3)] [] σ (f_X3_takeBlock_10 kk n x1 x2 x3 σ) := by
  intro n
  induction n with
  | zero => intros; exact r_none
  | succ n ih =>
    intro x1 x2 x3 σ
    rw [f_X3_takeBlock_10]
    refine r_iload_n X (j := 3) dX3_takeBlock_10 rfl rfl ?_
    refine r_sipush X (v := 128) dX3_takeBlock_11 (by decide) ?_
    refine r_icmp_ge X (tgt := 89) dX3_takeBlock_14 (by decide) (fun _ => ?_) (fun _ => ?_)
    · refine r_iinc X (j := 2) (v := (x2 + 1)) (lv' := [(2, .int (x2 + 1)), (0, .ref (α 0)), (1, .int x1), (3, .int x3)]) dX3_takeBlock_89 rfl rfl (by decide) rfl ?_
      refine r_goto X (tgt := 2) dX3_takeBlock_92 (by decide) ?_
      refine r_sub (lv' := [(0, .ref (α 0)), (1, .int x1), (2, .int (x2 + 1))]) [1, 2, 0] rfl ?_
      exact hkk x1 (x2 + 1) σ
    · refine r_aload_n X (j := 0) dX3_takeBlock_17 rfl rfl ?_
      refine r_get X (ci := 3) (q0 := 0) (v := .ref (α 1)) inX3 rfl rfl 0 (by decide) rfl fl_X3_7 dX3_takeBlock_18 ?_
      refine r_sipush X (v := 128) dX3_takeBlock_21 (by decide) ?_
      refine r_iload_n X (j := 2) dX3_takeBlock_24 rfl rfl ?_
      refine r_imul X dX3_takeBlock_25 ?_
      refine r_iload_n X (j := 3) dX3_takeBlock_26 rfl rfl ?_
      refine r_iadd X dX3_takeBlock_27 ?_
      refine r_zald X (q0 := 1) (t0 := 1) (kk := 1) rfl rfl dX3_takeBlock_28 ?_
      refine r_if_eq X (tgt := 83) dX3_takeBlock_29 (by decide) (fun _ => ?_) (fun _ => ?_)
      · refine r_iinc X (j := 3) (v := (x3 + 1)) (lv' := [(3, .int (x3 + 1)), (0, .ref (α 0)), (1, .int x1), (2, .int x2)]) dX3_takeBlock_83 rfl rfl (by decide) rfl ?_
        refine r_goto X (tgt := 10) dX3_takeBlock_86 (by decide) ?_
        refine r_sub (lv' := [(0, .ref (α 0)), (1, .int x1), (2, .int x2), (3, .int (x3 + 1))]) [1, 2, 3, 0] rfl ?_
        exact ih x1 x2 (x3 + 1) σ
      · refine r_aload_n X (j := 0) dX3_takeBlock_32 rfl rfl ?_
        refine r_get X (ci := 3) (q0 := 0) (v := .ref (α 1)) inX3 rfl rfl 0 (by decide) rfl fl_X3_7 dX3_takeBlock_33 ?_
        refine r_sipush X (v := 128) dX3_takeBlock_36 (by decide) ?_
        refine r_iload_n X (j := 2) dX3_takeBlock_39 rfl rfl ?_
        refine r_imul X dX3_takeBlock_40 ?_
        refine r_iload_n X (j := 3) dX3_takeBlock_41 rfl rfl ?_
        refine r_iadd X dX3_takeBlock_42 ?_
        refine r_iconst X (v := 0) dX3_takeBlock_43 (by decide) ?_
        refine r_zast X (q0 := 1) (t0 := 1) (kk := 1) rfl (fun _ => rfl) rfl dX3_takeBlock_44 ?_
        refine r_iload_n X (j := 2) dX3_takeBlock_45 rfl rfl ?_
        refine r_iconst X (v := 1) dX3_takeBlock_46 (by decide) ?_
        refine r_isub X dX3_takeBlock_47 ?_
        refine r_istore X (lv' := [(4, .int (x2 - 1)), (0, .ref (α 0)), (1, .int x1), (2, .int x2), (3, .int x3)]) dX3_takeBlock_48 (by decide) rfl ?_
        refine r_sub (lv' := [(0, .ref (α 0)), (1, .int x1), (2, .int x2), (3, .int x3), (4, .int (x2 - 1))]) [1, 2, 3, 4, 0] rfl ?_
        exact cl_X3_takeBlock_50 l D cI cZ α A hJ X FU x1 x2 x3 (x2 - 1) (wr σ 1 ((128 * x2) + x3) 0)
set_option maxRecDepth 100000 in
set_option maxHeartbeats 4000000 in
theorem cl_X3_takeBlock_2 (l : Launch) (D : va_G) (cI cZ : ClassId) (α : Nat → Nat) (A : Nat → Prop) (hJ : ∀ σ, va_D A ((kwM cI cZ α) σ)) {p : Program} {e : Env} {s : State} {m : MethodId} {args : Array Value} {below : List Frame} {meth : Method} {c : Code} (X : CX p s m args meth c cX3_takeBlock 5 RX3 D (tyA cI cZ) (kwM cI cZ α) A (some .int)) : ∀ (n : Nat) (x1 : Int32) (x2 : Int32) (σ : KS), Cr p l e (rmd 0) s m args below meth c 5 D (kwM cI cZ α) A vI 2 [(0, .ref (α 0)), (1, .int x1), (2, .int x2)] [] σ (f_X3_takeBlock_2 n x1 x2 σ) := by
  intro n
  induction n with
  | zero => intros; exact r_none
  | succ n ih =>
    intro x1 x2 σ
    rw [f_X3_takeBlock_2]
    refine r_iload_n X (j := 2) dX3_takeBlock_2 rfl rfl ?_
    refine r_bipush X (v := 8) dX3_takeBlock_3 (by decide) ?_
    refine r_icmp_ge X (tgt := 95) dX3_takeBlock_5 (by decide) (fun _ => ?_) (fun _ => ?_)
    · refine r_iconst X (v := (-1)) dX3_takeBlock_95 (by decide) ?_
      exact r_ireturn X dX3_takeBlock_96
    · refine r_iconst X (v := 0) dX3_takeBlock_8 (by decide) ?_
      refine r_istore_n X (lv' := [(3, .int 0), (0, .ref (α 0)), (1, .int x1), (2, .int x2)]) dX3_takeBlock_9 rfl (by decide) rfl ?_
      refine r_sub (lv' := [(0, .ref (α 0)), (1, .int x1), (2, .int x2), (3, .int 0)]) [1, 2, 3, 0] rfl ?_
      exact cl_X3_takeBlock_10 l D cI cZ α A hJ X (fun y1 y2 σ => f_X3_takeBlock_2 n y1 y2 σ) (fun y1 y2 σ => ih y1 y2 σ) FU x1 x2 0 σ
set_option maxRecDepth 100000 in
set_option maxHeartbeats 4000000 in
theorem c_X3_takeBlock (l : Launch) (D : va_G) (cI cZ : ClassId) (α : Nat → Nat) (A : Nat → Prop) (hJ : ∀ σ, va_D A ((kwM cI cZ α) σ)) (x1 : Int32) (σ : KS) : Ct l D (tyA cI cZ) (kwM cI cZ α) A yX3_takeBlock cX3_takeBlock 5 (some .int) 0 vI [.ref (α 0), .int x1] σ (m_X3_takeBlock x1 σ) := by
  refine Ct.of (own := RX3) hJ (by decide) rfl (Nat.le_of_ble_eq_true rfl) ?_
  intro p e s m args below meth c X
  refine r_sub (lv' := [(0, .ref (α 0)), (1, .int x1)]) [0, 1] rfl ?_
  unfold m_X3_takeBlock
  refine r_iload_n X (j := 1) dX3_takeBlock_0 rfl rfl ?_
  refine r_istore_n X (lv' := [(2, .int x1), (0, .ref (α 0)), (1, .int x1)]) dX3_takeBlock_1 rfl (by decide) rfl ?_
  refine r_sub (lv' := [(0, .ref (α 0)), (1, .int x1), (2, .int x1)]) [1, 2, 0] rfl ?_
  exact cl_X3_takeBlock_2 l D cI cZ α A hJ X FU x1 x1 σ
set_option maxRecDepth 100000 in
set_option maxHeartbeats 4000000 in
theorem cl_X3_tick_28 (l : Launch) (D : va_G) (cI cZ : ClassId) (α : Nat → Nat) (A : Nat → Prop) (hJ : ∀ σ, va_D A ((kwM cI cZ α) σ)) {p : Program} {e : Env} {s : State} {m : MethodId} {args : Array Value} {below : List Frame} {meth : Method} {c : Code} (X : CX p s m args meth c cX3_tick 3 RX3 D (tyA cI cZ) (kwM cI cZ α) A (some .int)) : ∀ (n : Nat) (x1 : Int32) (x2 : Int32) (σ : KS), Cr p l e (rmd 0) s m args below meth c 3 D (kwM cI cZ α) A vI 28 [(0, .ref (α 0)), (1, .int x1), (2, .int x2)] [] σ (f_X3_tick_28 n x1 x2 σ) := by
  intro n
  induction n with
  | zero => intros; exact r_none
  | succ n ih =>
    intro x1 x2 σ
    rw [f_X3_tick_28]
    refine r_iload_n X (j := 2) dX3_tick_28 rfl rfl ?_
    refine r_iconst X (v := 1) dX3_tick_29 (by decide) ?_
    refine r_iadd X dX3_tick_30 ?_
    refine r_aload_n X (j := 0) dX3_tick_31 rfl rfl ?_
    refine r_get X (ci := 3) (q0 := 0) (v := .int (gv σ 0)) inX3 rfl rfl 13 (by decide) rfl fl_X3_80 dX3_tick_32 ?_
    refine r_icmp_ge X (tgt := 58) dX3_tick_35 (by decide) (fun _ => ?_) (fun _ => ?_)
    · refine r_aload_n X (j := 0) dX3_tick_58 rfl rfl ?_
      refine r_get X (ci := 3) (q0 := 0) (v := .ref (α 13)) inX3 rfl rfl 12 (by decide) rfl fl_X3_47 dX3_tick_59 ?_
      refine r_aload_n X (j := 0) dX3_tick_62 rfl rfl ?_
      refine r_get X (ci := 3) (q0 := 0) (v := .int (gv σ 0)) inX3 rfl rfl 13 (by decide) rfl fl_X3_80 dX3_tick_63 ?_
      refine r_iconst X (v := 1) dX3_tick_66 (by decide) ?_
      refine r_isub X dX3_tick_67 ?_
      refine r_iload_n X (j := 1) dX3_tick_68 rfl rfl ?_
      refine r_iast X (q0 := 13) (t0 := 0) (kk := 13) rfl (fun _ => rfl) rfl dX3_tick_69 ?_
      refine r_aload_n X (j := 0) dX3_tick_70 rfl rfl ?_
      refine r_get X (ci := 3) (q0 := 0) (v := .ref (α 13)) inX3 rfl rfl 12 (by decide) rfl fl_X3_47 dX3_tick_71 ?_
      refine r_iconst X (v := 0) dX3_tick_74 (by decide) ?_
      refine r_iald X (q0 := 13) (t0 := 0) (kk := 13) rfl rfl dX3_tick_75 ?_
      exact r_ireturn X dX3_tick_76
    · refine r_aload_n X (j := 0) dX3_tick_38 rfl rfl ?_
      refine r_get X (ci := 3) (q0 := 0) (v := .ref (α 13)) inX3 rfl rfl 12 (by decide) rfl fl_X3_47 dX3_tick_39 ?_
      refine r_iload_n X (j := 2) dX3_tick_42 rfl rfl ?_
      refine r_aload_n X (j := 0) dX3_tick_43 rfl rfl ?_
      refine r_get X (ci := 3) (q0 := 0) (v := .ref (α 13)) inX3 rfl rfl 12 (by decide) rfl fl_X3_47 dX3_tick_44 ?_
      refine r_iload_n X (j := 2) dX3_tick_47 rfl rfl ?_
      refine r_iconst X (v := 1) dX3_tick_48 (by decide) ?_
      refine r_iadd X dX3_tick_49 ?_
      refine r_iald X (q0 := 13) (t0 := 0) (kk := 13) rfl rfl dX3_tick_50 ?_
      refine r_iast X (q0 := 13) (t0 := 0) (kk := 13) rfl (fun _ => rfl) rfl dX3_tick_51 ?_
      refine r_iinc X (j := 2) (v := (x2 + 1)) (lv' := [(2, .int (x2 + 1)), (0, .ref (α 0)), (1, .int x1)]) dX3_tick_52 rfl rfl (by decide) rfl ?_
      refine r_goto X (tgt := 28) dX3_tick_55 (by decide) ?_
      refine r_sub (lv' := [(0, .ref (α 0)), (1, .int x1), (2, .int (x2 + 1))]) [1, 2, 0] rfl ?_
      exact ih x1 (x2 + 1) (wr σ 13 x2 (rd σ 13 (x2 + 1)))
set_option maxRecDepth 100000 in
set_option maxHeartbeats 4000000 in
theorem c_X3_tick (l : Launch) (D : va_G) (cI cZ : ClassId) (α : Nat → Nat) (A : Nat → Prop) (hJ : ∀ σ, va_D A ((kwM cI cZ α) σ)) (σ : KS) : Ct l D (tyA cI cZ) (kwM cI cZ α) A yX3_tick cX3_tick 3 (some .int) 0 vI [.ref (α 0)] σ (m_X3_tick σ) := by
  refine Ct.of (own := RX3) hJ (by decide) rfl (Nat.le_of_ble_eq_true rfl) ?_
  intro p e s m args below meth c X
  refine r_sub (lv' := [(0, .ref (α 0))]) [0] rfl ?_
  unfold m_X3_tick
  refine r_aload_n X (j := 0) dX3_tick_0 rfl rfl ?_
  refine r_get X (ci := 3) (q0 := 0) (v := .int (gv σ 0)) inX3 rfl rfl 13 (by decide) rfl fl_X3_80 dX3_tick_1 ?_
  refine r_if_ne X (tgt := 9) dX3_tick_4 (by decide) (fun _ => ?_) (fun _ => ?_)
  · refine r_iconst X (v := (-1)) dX3_tick_7 (by decide) ?_
    exact r_ireturn X dX3_tick_8
  · refine r_aload_n X (j := 0) dX3_tick_9 rfl rfl ?_
    refine r_dup X dX3_tick_10 rfl ?_
    refine r_get X (ci := 3) (q0 := 0) (v := .int (gv σ 3)) inX3 rfl rfl 16 (by decide) rfl fl_X3_131 dX3_tick_11 ?_
    refine r_iconst X (v := 1) dX3_tick_14 (by decide) ?_
    refine r_iadd X dX3_tick_15 ?_
    refine r_put X (ci := 3) (q0 := 0) (j := 3) inX3 rfl tyX3_ok nmX3 rfl 16 (by decide) rfl fl_X3_131 rfl (by decide +kernel) (Nat.le_of_ble_eq_true rfl) dX3_tick_16 ?_
    refine r_aload_n X (j := 0) dX3_tick_19 rfl rfl ?_
    refine r_get X (ci := 3) (q0 := 0) (v := .ref (α 13)) inX3 rfl rfl 12 (by decide) rfl fl_X3_47 dX3_tick_20 ?_
    refine r_iconst X (v := 0) dX3_tick_23 (by decide) ?_
    refine r_iald X (q0 := 13) (t0 := 0) (kk := 13) rfl rfl dX3_tick_24 ?_
    refine r_istore_n X (lv' := [(1, .int (rd (sv σ 3 ((gv σ 3) + 1)) 13 0)), (0, .ref (α 0))]) dX3_tick_25 rfl (by decide) rfl ?_
    refine r_iconst X (v := 0) dX3_tick_26 (by decide) ?_
    refine r_istore_n X (lv' := [(2, .int 0), (1, .int (rd (sv σ 3 ((gv σ 3) + 1)) 13 0)), (0, .ref (α 0))]) dX3_tick_27 rfl (by decide) rfl ?_
    refine r_sub (lv' := [(0, .ref (α 0)), (1, .int (rd (sv σ 3 ((gv σ 3) + 1)) 13 0)), (2, .int 0)]) [2, 1, 0] rfl ?_
    exact cl_X3_tick_28 l D cI cZ α A hJ X FU (rd (sv σ 3 ((gv σ 3) + 1)) 13 0) 0 (sv σ 3 ((gv σ 3) + 1))
set_option maxRecDepth 100000 in
set_option maxHeartbeats 4000000 in
theorem cl_X3_told_19 (l : Launch) (D : va_G) (cI cZ : ClassId) (α : Nat → Nat) (A : Nat → Prop) (hJ : ∀ σ, va_D A ((kwM cI cZ α) σ)) {p : Program} {e : Env} {s : State} {m : MethodId} {args : Array Value} {below : List Frame} {meth : Method} {c : Code} (X : CX p s m args meth c cX3_told 5 RX3 D (tyA cI cZ) (kwM cI cZ α) A (some .int)) : ∀ (n : Nat) (x1 : Int32) (x2 : Int32) (x3 : Int32) (x4 : Int32) (σ : KS), Cr p l e (rmd 0) s m args below meth c 5 D (kwM cI cZ α) A vI 19 [(0, .ref (α 0)), (1, .int x1), (2, .int x2), (3, .int x3), (4, .int x4)] [] σ (f_X3_told_19 n x1 x2 x3 x4 σ) := by
  intro n
  induction n with
  | zero => intros; exact r_none
  | succ n ih =>
    intro x1 x2 x3 x4 σ
    rw [f_X3_told_19]
    refine r_iload X (j := 4) dX3_told_19 rfl ?_
    refine r_bipush X (v := 16) dX3_told_21 (by decide) ?_
    refine r_icmp_ge X (tgt := 70) dX3_told_23 (by decide) (fun _ => ?_) (fun _ => ?_)
    · refine r_iload_n X (j := 1) dX3_told_70 rfl rfl ?_
      refine r_if_ne X (tgt := 78) dX3_told_71 (by decide) (fun _ => ?_) (fun _ => ?_)
      · refine r_iload_n X (j := 2) dX3_told_74 rfl rfl ?_
        refine r_goto X (tgt := 115) dX3_told_75 (by decide) ?_
        exact r_ireturn X dX3_told_115
      · refine r_iload_n X (j := 1) dX3_told_78 rfl rfl ?_
        refine r_iconst X (v := 1) dX3_told_79 (by decide) ?_
        refine r_icmp_ne X (tgt := 87) dX3_told_80 (by decide) (fun _ => ?_) (fun _ => ?_)
        · refine r_iload_n X (j := 3) dX3_told_83 rfl rfl ?_
          refine r_goto X (tgt := 115) dX3_told_84 (by decide) ?_
          exact r_ireturn X dX3_told_115
        · refine r_iload_n X (j := 1) dX3_told_87 rfl rfl ?_
          refine r_iconst X (v := 2) dX3_told_88 (by decide) ?_
          refine r_icmp_ne X (tgt := 99) dX3_told_89 (by decide) (fun _ => ?_) (fun _ => ?_)
          · refine r_aload_n X (j := 0) dX3_told_92 rfl rfl ?_
            refine r_get X (ci := 3) (q0 := 0) (v := .int (gv σ 1)) inX3 rfl rfl 14 (by decide) rfl fl_X3_122 dX3_told_93 ?_
            refine r_goto X (tgt := 115) dX3_told_96 (by decide) ?_
            exact r_ireturn X dX3_told_115
          · refine r_iload_n X (j := 1) dX3_told_99 rfl rfl ?_
            refine r_iconst X (v := 3) dX3_told_100 (by decide) ?_
            refine r_icmp_ne X (tgt := 111) dX3_told_101 (by decide) (fun _ => ?_) (fun _ => ?_)
            · refine r_aload_n X (j := 0) dX3_told_104 rfl rfl ?_
              refine r_get X (ci := 3) (q0 := 0) (v := .int (gv σ 2)) inX3 rfl rfl 15 (by decide) rfl fl_X3_63 dX3_told_105 ?_
              refine r_goto X (tgt := 115) dX3_told_108 (by decide) ?_
              exact r_ireturn X dX3_told_115
            · refine r_aload_n X (j := 0) dX3_told_111 rfl rfl ?_
              refine r_get X (ci := 3) (q0 := 0) (v := .int (gv σ 3)) inX3 rfl rfl 16 (by decide) rfl fl_X3_131 dX3_told_112 ?_
              exact r_ireturn X dX3_told_115
    · refine r_iload_n X (j := 2) dX3_told_26 rfl rfl ?_
      refine r_aload_n X (j := 0) dX3_told_27 rfl rfl ?_
      refine r_get X (ci := 3) (q0 := 0) (v := .ref (α 6)) inX3 rfl rfl 5 (by decide) rfl fl_X3_26 dX3_told_28 ?_
      refine r_iload X (j := 4) dX3_told_31 rfl ?_
      refine r_iald X (q0 := 6) (t0 := 0) (kk := 6) rfl rfl dX3_told_33 ?_
      refine r_iconst X (v := 1) dX3_told_34 (by decide) ?_
      refine r_icmp_ne X (tgt := 42) dX3_told_35 (by decide) (fun _ => ?_) (fun _ => ?_)
      · refine r_iconst X (v := 1) dX3_told_38 (by decide) ?_
        refine r_goto X (tgt := 43) dX3_told_39 (by decide) ?_
        refine r_iadd X dX3_told_43 ?_
        refine r_istore_n X (lv' := [(2, .int (x2 + 1)), (0, .ref (α 0)), (1, .int x1), (3, .int x3), (4, .int x4)]) dX3_told_44 rfl (by decide) rfl ?_
        refine r_iload_n X (j := 3) dX3_told_45 rfl rfl ?_
        refine r_aload_n X (j := 1) dX3_told_46 rfl rfl ?_
        refine r_get X (ci := 3) (q0 := 0) (v := .ref (α 6)) inX3 rfl rfl 5 (by decide) rfl fl_X3_26 dX3_told_47 ?_
        refine r_iload X (j := 4) dX3_told_50 rfl ?_
        refine r_iald X (q0 := 6) (t0 := 0) (kk := 6) rfl rfl dX3_told_52 ?_
        refine r_iconst X (v := 2) dX3_told_53 (by decide) ?_
        refine r_icmp_ne X (tgt := 61) dX3_told_54 (by decide) (fun _ => ?_) (fun _ => ?_)
        · refine r_iconst X (v := 1) dX3_told_57 (by decide) ?_
          refine r_goto X (tgt := 62) dX3_told_58 (by decide) ?_
          refine r_iadd X dX3_told_62 ?_
          refine r_istore_n X (lv' := [(3, .int (x3 + 1)), (2, .int (x2 + 1)), (0, .ref (α 0)), (1, .int x1), (4, .int x4)]) dX3_told_63 rfl (by decide) rfl ?_
          refine r_iinc X (j := 4) (v := (x4 + 1)) (lv' := [(4, .int (x4 + 1)), (3, .int (x3 + 1)), (2, .int (x2 + 1)), (0, .ref (α 0)), (1, .int x1)]) dX3_told_64 rfl rfl (by decide) rfl ?_
          refine r_goto X (tgt := 19) dX3_told_67 (by decide) ?_
          refine r_sub (lv' := [(0, .ref (α 0)), (1, .int x1), (2, .int (x2 + 1)), (3, .int (x3 + 1)), (4, .int (x4 + 1))]) [3, 4, 2, 1, 0] rfl ?_
          exact ih x1 (x2 + 1) (x3 + 1) (x4 + 1) σ
        · refine r_iconst X (v := 0) dX3_told_61 (by decide) ?_
          refine r_iadd X dX3_told_62 ?_
          refine r_istore_n X (lv' := [(3, .int (x3 + 0)), (2, .int (x2 + 1)), (0, .ref (α 0)), (1, .int x1), (4, .int x4)]) dX3_told_63 rfl (by decide) rfl ?_
          refine r_iinc X (j := 4) (v := (x4 + 1)) (lv' := [(4, .int (x4 + 1)), (3, .int (x3 + 0)), (2, .int (x2 + 1)), (0, .ref (α 0)), (1, .int x1)]) dX3_told_64 rfl rfl (by decide) rfl ?_
          refine r_goto X (tgt := 19) dX3_told_67 (by decide) ?_
          refine r_sub (lv' := [(0, .ref (α 0)), (1, .int x1), (2, .int (x2 + 1)), (3, .int (x3 + 0)), (4, .int (x4 + 1))]) [3, 4, 2, 1, 0] rfl ?_
          exact ih x1 (x2 + 1) (x3 + 0) (x4 + 1) σ
      · refine r_iconst X (v := 0) dX3_told_42 (by decide) ?_
        refine r_iadd X dX3_told_43 ?_
        refine r_istore_n X (lv' := [(2, .int (x2 + 0)), (0, .ref (α 0)), (1, .int x1), (3, .int x3), (4, .int x4)]) dX3_told_44 rfl (by decide) rfl ?_
        refine r_iload_n X (j := 3) dX3_told_45 rfl rfl ?_
        refine r_aload_n X (j := 1) dX3_told_46 rfl rfl ?_
        refine r_get X (ci := 3) (q0 := 0) (v := .ref (α 6)) inX3 rfl rfl 5 (by decide) rfl fl_X3_26 dX3_told_47 ?_
        refine r_iload X (j := 4) dX3_told_50 rfl ?_
        refine r_iald X (q0 := 6) (t0 := 0) (kk := 6) rfl rfl dX3_told_52 ?_
        refine r_iconst X (v := 2) dX3_told_53 (by decide) ?_
        refine r_icmp_ne X (tgt := 61) dX3_told_54 (by decide) (fun _ => ?_) (fun _ => ?_)
        · refine r_iconst X (v := 1) dX3_told_57 (by decide) ?_
          refine r_goto X (tgt := 62) dX3_told_58 (by decide) ?_
          refine r_iadd X dX3_told_62 ?_
          refine r_istore_n X (lv' := [(3, .int (x3 + 1)), (2, .int (x2 + 0)), (0, .ref (α 0)), (1, .int x1), (4, .int x4)]) dX3_told_63 rfl (by decide) rfl ?_
          refine r_iinc X (j := 4) (v := (x4 + 1)) (lv' := [(4, .int (x4 + 1)), (3, .int (x3 + 1)), (2, .int (x2 + 0)), (0, .ref (α 0)), (1, .int x1)]) dX3_told_64 rfl rfl (by decide) rfl ?_
          refine r_goto X (tgt := 19) dX3_told_67 (by decide) ?_
          refine r_sub (lv' := [(0, .ref (α 0)), (1, .int x1), (2, .int (x2 + 0)), (3, .int (x3 + 1)), (4, .int (x4 + 1))]) [3, 4, 2, 1, 0] rfl ?_
          exact ih x1 (x2 + 0) (x3 + 1) (x4 + 1) σ
        · refine r_iconst X (v := 0) dX3_told_61 (by decide) ?_
          refine r_iadd X dX3_told_62 ?_
          refine r_istore_n X (lv' := [(3, .int (x3 + 0)), (2, .int (x2 + 0)), (0, .ref (α 0)), (1, .int x1), (4, .int x4)]) dX3_told_63 rfl (by decide) rfl ?_
          refine r_iinc X (j := 4) (v := (x4 + 1)) (lv' := [(4, .int (x4 + 1)), (3, .int (x3 + 0)), (2, .int (x2 + 0)), (0, .ref (α 0)), (1, .int x1)]) dX3_told_64 rfl rfl (by decide) rfl ?_
          refine r_goto X (tgt := 19) dX3_told_67 (by decide) ?_
          refine r_sub (lv' := [(0, .ref (α 0)), (1, .int x1), (2, .int (x2 + 0)), (3, .int (x3 + 0)), (4, .int (x4 + 1))]) [3, 4, 2, 1, 0] rfl ?_
          exact ih x1 (x2 + 0) (x3 + 0) (x4 + 1) σ
set_option maxRecDepth 100000 in
set_option maxHeartbeats 4000000 in
theorem c_X3_told (l : Launch) (D : va_G) (cI cZ : ClassId) (α : Nat → Nat) (A : Nat → Prop) (hJ : ∀ σ, va_D A ((kwM cI cZ α) σ)) (x1 : Int32) (σ : KS) : Ct l D (tyA cI cZ) (kwM cI cZ α) A yX3_told cX3_told 5 (some .int) 0 vI [.ref (α 0), .int x1] σ (m_X3_told x1 σ) := by
  refine Ct.of (own := RX3) hJ (by decide) rfl (Nat.le_of_ble_eq_true rfl) ?_
  intro p e s m args below meth c X
  refine r_sub (lv' := [(0, .ref (α 0)), (1, .int x1)]) [0, 1] rfl ?_
  unfold m_X3_told
  refine r_iload_n X (j := 1) dX3_told_0 rfl rfl ?_
  refine r_if_lt X (tgt := 9) dX3_told_1 (by decide) (fun _ => ?_) (fun _ => ?_)
  · refine r_bipush X (v := (-2)) dX3_told_9 (by decide) ?_
    exact r_ireturn X dX3_told_11
  · refine r_iload_n X (j := 1) dX3_told_4 rfl rfl ?_
    refine r_iconst X (v := 4) dX3_told_5 (by decide) ?_
    refine r_icmp_le X (tgt := 12) dX3_told_6 (by decide) (fun _ => ?_) (fun _ => ?_)
    · refine r_iconst X (v := 0) dX3_told_12 (by decide) ?_
      refine r_istore_n X (lv' := [(2, .int 0), (0, .ref (α 0)), (1, .int x1)]) dX3_told_13 rfl (by decide) rfl ?_
      refine r_iconst X (v := 0) dX3_told_14 (by decide) ?_
      refine r_istore_n X (lv' := [(3, .int 0), (2, .int 0), (0, .ref (α 0)), (1, .int x1)]) dX3_told_15 rfl (by decide) rfl ?_
      refine r_iconst X (v := 0) dX3_told_16 (by decide) ?_
      refine r_istore X (lv' := [(4, .int 0), (3, .int 0), (2, .int 0), (0, .ref (α 0)), (1, .int x1)]) dX3_told_17 (by decide) rfl ?_
      refine r_sub (lv' := [(0, .ref (α 0)), (1, .int x1), (2, .int 0), (3, .int 0), (4, .int 0)]) [3, 4, 2, 1, 0] rfl ?_
      exact cl_X3_told_19 l D cI cZ α A hJ X FU x1 0 0 0 σ
    · refine r_bipush X (v := (-2)) dX3_told_9 (by decide) ?_
      exact r_ireturn X dX3_told_11
set_option maxRecDepth 100000 in
set_option maxHeartbeats 4000000 in
theorem cl_X3_unusedNumber_2 (l : Launch) (D : va_G) (cI cZ : ClassId) (α : Nat → Nat) (A : Nat → Prop) (hJ : ∀ σ, va_D A ((kwM cI cZ α) σ)) {p : Program} {e : Env} {s : State} {m : MethodId} {args : Array Value} {below : List Frame} {meth : Method} {c : Code} (X : CX p s m args meth c cX3_unusedNumber 2 RX3 D (tyA cI cZ) (kwM cI cZ α) A (some .int)) : ∀ (n : Nat) (x1 : Int32) (σ : KS), Cr p l e (rmd 0) s m args below meth c 2 D (kwM cI cZ α) A vI 2 [(0, .ref (α 0)), (1, .int x1)] [] σ (f_X3_unusedNumber_2 n x1 σ) := by
  intro n
  induction n with
  | zero => intros; exact r_none
  | succ n ih =>
    intro x1 σ
    rw [f_X3_unusedNumber_2]
    refine r_iload_n X (j := 1) dX3_unusedNumber_2 rfl rfl ?_
    refine r_bipush X (v := 16) dX3_unusedNumber_3 (by decide) ?_
    refine r_icmp_ge X (tgt := 25) dX3_unusedNumber_5 (by decide) (fun _ => ?_) (fun _ => ?_)
    · refine r_iconst X (v := (-1)) dX3_unusedNumber_25 (by decide) ?_
      exact r_ireturn X dX3_unusedNumber_26
    · refine r_aload_n X (j := 0) dX3_unusedNumber_8 rfl rfl ?_
      refine r_get X (ci := 3) (q0 := 0) (v := .ref (α 6)) inX3 rfl rfl 5 (by decide) rfl fl_X3_26 dX3_unusedNumber_9 ?_
      refine r_iload_n X (j := 1) dX3_unusedNumber_12 rfl rfl ?_
      refine r_iald X (q0 := 6) (t0 := 0) (kk := 6) rfl rfl dX3_unusedNumber_13 ?_
      refine r_if_ne X (tgt := 19) dX3_unusedNumber_14 (by decide) (fun _ => ?_) (fun _ => ?_)
      · refine r_iload_n X (j := 1) dX3_unusedNumber_17 rfl rfl ?_
        exact r_ireturn X dX3_unusedNumber_18
      · refine r_iinc X (j := 1) (v := (x1 + 1)) (lv' := [(1, .int (x1 + 1)), (0, .ref (α 0))]) dX3_unusedNumber_19 rfl rfl (by decide) rfl ?_
        refine r_goto X (tgt := 2) dX3_unusedNumber_22 (by decide) ?_
        refine r_sub (lv' := [(0, .ref (α 0)), (1, .int (x1 + 1))]) [1, 0] rfl ?_
        exact ih (x1 + 1) σ
set_option maxRecDepth 100000 in
set_option maxHeartbeats 4000000 in
theorem c_X3_unusedNumber (l : Launch) (D : va_G) (cI cZ : ClassId) (α : Nat → Nat) (A : Nat → Prop) (hJ : ∀ σ, va_D A ((kwM cI cZ α) σ)) (σ : KS) : Ct l D (tyA cI cZ) (kwM cI cZ α) A yX3_unusedNumber cX3_unusedNumber 2 (some .int) 0 vI [.ref (α 0)] σ (m_X3_unusedNumber σ) := by
  refine Ct.of (own := RX3) hJ (by decide) rfl (Nat.le_of_ble_eq_true rfl) ?_
  intro p e s m args below meth c X
  refine r_sub (lv' := [(0, .ref (α 0))]) [0] rfl ?_
  unfold m_X3_unusedNumber
  refine r_iconst X (v := 0) dX3_unusedNumber_0 (by decide) ?_
  refine r_istore_n X (lv' := [(1, .int 0), (0, .ref (α 0))]) dX3_unusedNumber_1 rfl (by decide) rfl ?_
  refine r_sub (lv' := [(0, .ref (α 0)), (1, .int 0)]) [1, 0] rfl ?_
  exact cl_X3_unusedNumber_2 l D cI cZ α A hJ X FU 0 σ
set_option maxRecDepth 100000 in
set_option maxHeartbeats 4000000 in
theorem cl_X3_users_13 (l : Launch) (D : va_G) (cI cZ : ClassId) (α : Nat → Nat) (A : Nat → Prop) (hJ : ∀ σ, va_D A ((kwM cI cZ α) σ)) {p : Program} {e : Env} {s : State} {m : MethodId} {args : Array Value} {below : List Frame} {meth : Method} {c : Code} (X : CX p s m args meth c cX3_users 5 RX3 D (tyA cI cZ) (kwM cI cZ α) A (some .int)) (kk : Int32 → Int32 → Int32 → KS → KR) (hkk : ∀ (y1 : Int32) (y2 : Int32) (y3 : Int32) (σ : KS), Cr p l e (rmd 0) s m args below meth c 5 D (kwM cI cZ α) A vI 4 [(0, .ref (α 0)), (1, .int y1), (2, .int y2), (3, .int y3)] [] σ (kk y1 y2 y3 σ)) : ∀ (n : Nat) (x1 : Int32) (x2 : Int32) (x3 : Int32) (x4 : Int32) (σ : KS), Cr p l e (rmd 0) s m args below meth c 5 D (kwM cI cZ α) A vI 13 [(0, .ref (α 0)), (1, .int x1), (2, .int x2), (3, .int x3), (4, .int x4)] [] σ (f_X3_users_13 kk n x1 x2 x3 x4 σ) := by
  intro n
  induction n with
  | zero => intros; exact r_none
  | succ n ih =>
    intro x1 x2 x3 x4 σ
    rw [f_X3_users_13]
    refine r_iload X (j := 4) dX3_users_13 rfl ?_
    refine r_aload_n X (j := 0) dX3_users_15 rfl rfl ?_
    refine r_get X (ci := 3) (q0 := 0) (v := .ref (α 7)) inX3 rfl rfl 6 (by decide) rfl fl_X3_29 dX3_users_16 ?_
    refine r_iload_n X (j := 3) dX3_users_19 rfl rfl ?_
    refine r_iald X (q0 := 7) (t0 := 0) (kk := 7) rfl rfl dX3_users_20 ?_
    refine r_icmp_ge X (tgt := 65) dX3_users_21 (by decide) (fun _ => ?_) (fun _ => ?_)
    · refine r_iinc X (j := 3) (v := (x3 + 1)) (lv' := [(3, .int (x3 + 1)), (0, .ref (α 0)), (1, .int x1), (2, .int x2), (4, .int x4)]) dX3_users_65 rfl rfl (by decide) rfl ?_
      refine r_goto X (tgt := 4) dX3_users_68 (by decide) ?_
      refine r_sub (lv' := [(0, .ref (α 0)), (1, .int x1), (2, .int x2), (3, .int (x3 + 1))]) [1, 2, 3, 0] rfl ?_
      exact hkk x1 x2 (x3 + 1) σ
    · refine r_aload_n X (j := 0) dX3_users_24 rfl rfl ?_
      refine r_get X (ci := 3) (q0 := 0) (v := .ref (α 6)) inX3 rfl rfl 5 (by decide) rfl fl_X3_26 dX3_users_25 ?_
      refine r_iload_n X (j := 3) dX3_users_28 rfl rfl ?_
      refine r_iald X (q0 := 6) (t0 := 0) (kk := 6) rfl rfl dX3_users_29 ?_
      refine r_iconst X (v := 1) dX3_users_30 (by decide) ?_
      refine r_icmp_ne X (tgt := 65) dX3_users_31 (by decide) (fun _ => ?_) (fun _ => ?_)
      · refine r_iload_n X (j := 2) dX3_users_34 rfl rfl ?_
        refine r_aload_n X (j := 0) dX3_users_35 rfl rfl ?_
        refine r_get X (ci := 3) (q0 := 0) (v := .ref (α 11)) inX3 rfl rfl 10 (by decide) rfl fl_X3_41 dX3_users_36 ?_
        refine r_sipush X (v := 256) dX3_users_39 (by decide) ?_
        refine r_iload_n X (j := 3) dX3_users_42 rfl rfl ?_
        refine r_imul X dX3_users_43 ?_
        refine r_iload X (j := 4) dX3_users_44 rfl ?_
        refine r_iadd X dX3_users_46 ?_
        refine r_iald X (q0 := 11) (t0 := 0) (kk := 11) rfl rfl dX3_users_47 ?_
        refine r_iload_n X (j := 1) dX3_users_48 rfl rfl ?_
        refine r_icmp_ne X (tgt := 56) dX3_users_49 (by decide) (fun _ => ?_) (fun _ => ?_)
        · refine r_iconst X (v := 1) dX3_users_52 (by decide) ?_
          refine r_goto X (tgt := 57) dX3_users_53 (by decide) ?_
          refine r_iadd X dX3_users_57 ?_
          refine r_istore_n X (lv' := [(2, .int (x2 + 1)), (0, .ref (α 0)), (1, .int x1), (3, .int x3), (4, .int x4)]) dX3_users_58 rfl (by decide) rfl ?_
          refine r_iinc X (j := 4) (v := (x4 + 1)) (lv' := [(4, .int (x4 + 1)), (2, .int (x2 + 1)), (0, .ref (α 0)), (1, .int x1), (3, .int x3)]) dX3_users_59 rfl rfl (by decide) rfl ?_
          refine r_goto X (tgt := 13) dX3_users_62 (by decide) ?_
          refine r_sub (lv' := [(0, .ref (α 0)), (1, .int x1), (2, .int (x2 + 1)), (3, .int x3), (4, .int (x4 + 1))]) [2, 3, 1, 4, 0] rfl ?_
          exact ih x1 (x2 + 1) x3 (x4 + 1) σ
        · refine r_iconst X (v := 0) dX3_users_56 (by decide) ?_
          refine r_iadd X dX3_users_57 ?_
          refine r_istore_n X (lv' := [(2, .int (x2 + 0)), (0, .ref (α 0)), (1, .int x1), (3, .int x3), (4, .int x4)]) dX3_users_58 rfl (by decide) rfl ?_
          refine r_iinc X (j := 4) (v := (x4 + 1)) (lv' := [(4, .int (x4 + 1)), (2, .int (x2 + 0)), (0, .ref (α 0)), (1, .int x1), (3, .int x3)]) dX3_users_59 rfl rfl (by decide) rfl ?_
          refine r_goto X (tgt := 13) dX3_users_62 (by decide) ?_
          refine r_sub (lv' := [(0, .ref (α 0)), (1, .int x1), (2, .int (x2 + 0)), (3, .int x3), (4, .int (x4 + 1))]) [2, 3, 1, 4, 0] rfl ?_
          exact ih x1 (x2 + 0) x3 (x4 + 1) σ
      · refine r_iinc X (j := 3) (v := (x3 + 1)) (lv' := [(3, .int (x3 + 1)), (0, .ref (α 0)), (1, .int x1), (2, .int x2), (4, .int x4)]) dX3_users_65 rfl rfl (by decide) rfl ?_
        refine r_goto X (tgt := 4) dX3_users_68 (by decide) ?_
        refine r_sub (lv' := [(0, .ref (α 0)), (1, .int x1), (2, .int x2), (3, .int (x3 + 1))]) [1, 2, 3, 0] rfl ?_
        exact hkk x1 x2 (x3 + 1) σ
set_option maxRecDepth 100000 in
set_option maxHeartbeats 4000000 in
theorem cl_X3_users_4 (l : Launch) (D : va_G) (cI cZ : ClassId) (α : Nat → Nat) (A : Nat → Prop) (hJ : ∀ σ, va_D A ((kwM cI cZ α) σ)) {p : Program} {e : Env} {s : State} {m : MethodId} {args : Array Value} {below : List Frame} {meth : Method} {c : Code} (X : CX p s m args meth c cX3_users 5 RX3 D (tyA cI cZ) (kwM cI cZ α) A (some .int)) : ∀ (n : Nat) (x1 : Int32) (x2 : Int32) (x3 : Int32) (σ : KS), Cr p l e (rmd 0) s m args below meth c 5 D (kwM cI cZ α) A vI 4 [(0, .ref (α 0)), (1, .int x1), (2, .int x2), (3, .int x3)] [] σ (f_X3_users_4 n x1 x2 x3 σ) := by
  intro n
  induction n with
  | zero => intros; exact r_none
  | succ n ih =>
    intro x1 x2 x3 σ
    rw [f_X3_users_4]
    refine r_iload_n X (j := 3) dX3_users_4 rfl rfl ?_
    refine r_bipush X (v := 16) dX3_users_5 (by decide) ?_
    refine r_icmp_ge X (tgt := 71) dX3_users_7 (by decide) (fun _ => ?_) (fun _ => ?_)
    · refine r_iload_n X (j := 2) dX3_users_71 rfl rfl ?_
      exact r_ireturn X dX3_users_72
    · refine r_iconst X (v := 0) dX3_users_10 (by decide) ?_
      refine r_istore X (lv' := [(4, .int 0), (0, .ref (α 0)), (1, .int x1), (2, .int x2), (3, .int x3)]) dX3_users_11 (by decide) rfl ?_
      refine r_sub (lv' := [(0, .ref (α 0)), (1, .int x1), (2, .int x2), (3, .int x3), (4, .int 0)]) [1, 2, 3, 4, 0] rfl ?_
      exact cl_X3_users_13 l D cI cZ α A hJ X (fun y1 y2 y3 σ => f_X3_users_4 n y1 y2 y3 σ) (fun y1 y2 y3 σ => ih y1 y2 y3 σ) FU x1 x2 x3 0 σ
set_option maxRecDepth 100000 in
set_option maxHeartbeats 4000000 in
theorem c_X3_users (l : Launch) (D : va_G) (cI cZ : ClassId) (α : Nat → Nat) (A : Nat → Prop) (hJ : ∀ σ, va_D A ((kwM cI cZ α) σ)) (x1 : Int32) (σ : KS) : Ct l D (tyA cI cZ) (kwM cI cZ α) A yX3_users cX3_users 5 (some .int) 0 vI [.ref (α 0), .int x1] σ (m_X3_users x1 σ) := by
  refine Ct.of (own := RX3) hJ (by decide) rfl (Nat.le_of_ble_eq_true rfl) ?_
  intro p e s m args below meth c X
  refine r_sub (lv' := [(0, .ref (α 0)), (1, .int x1)]) [0, 1] rfl ?_
  unfold m_X3_users
  refine r_iconst X (v := 0) dX3_users_0 (by decide) ?_
  refine r_istore_n X (lv' := [(2, .int 0), (0, .ref (α 0)), (1, .int x1)]) dX3_users_1 rfl (by decide) rfl ?_
  refine r_iconst X (v := 0) dX3_users_2 (by decide) ?_
  refine r_istore_n X (lv' := [(3, .int 0), (2, .int 0), (0, .ref (α 0)), (1, .int x1)]) dX3_users_3 rfl (by decide) rfl ?_
  refine r_sub (lv' := [(0, .ref (α 0)), (1, .int x1), (2, .int 0), (3, .int 0)]) [2, 3, 1, 0] rfl ?_
  exact cl_X3_users_4 l D cI cZ α A hJ X FU x1 0 0 σ
set_option maxRecDepth 100000 in
set_option maxHeartbeats 4000000 in
theorem c_X3_about (l : Launch) (D : va_G) (cI cZ : ClassId) (α : Nat → Nat) (A : Nat → Prop) (hJ : ∀ σ, va_D A ((kwM cI cZ α) σ)) (x1 x2 : Int32) (σ : KS) : Ct l D (tyA cI cZ) (kwM cI cZ α) A yX3_about cX3_about 3 (some .int) 1 vI [.ref (α 0), .int x1, .int x2] σ (m_X3_about x1 x2 σ) := by
  refine Ct.of (own := RX3) hJ (by decide) rfl (Nat.le_of_ble_eq_true rfl) ?_
  intro p e s m args below meth c X
  refine r_sub (lv' := [(0, .ref (α 0)), (1, .int x1), (2, .int x2)]) [0, 1, 2] rfl ?_
  unfold m_X3_about
  refine r_iload_n X (j := 1) dX3_about_0 rfl rfl ?_
  refine r_if_lt X (tgt := 20) dX3_about_1 (by decide) (fun _ => ?_) (fun _ => ?_)
  · refine r_bipush X (v := (-2)) dX3_about_20 (by decide) ?_
    exact r_ireturn X dX3_about_22
  · refine r_iload_n X (j := 1) dX3_about_4 rfl rfl ?_
    refine r_sipush X (v := 128) dX3_about_5 (by decide) ?_
    refine r_icmp_ge X (tgt := 20) dX3_about_8 (by decide) (fun _ => ?_) (fun _ => ?_)
    · refine r_bipush X (v := (-2)) dX3_about_20 (by decide) ?_
      exact r_ireturn X dX3_about_22
    · refine r_iload_n X (j := 2) dX3_about_11 rfl rfl ?_
      refine r_if_lt X (tgt := 20) dX3_about_12 (by decide) (fun _ => ?_) (fun _ => ?_)
      · refine r_bipush X (v := (-2)) dX3_about_20 (by decide) ?_
        exact r_ireturn X dX3_about_22
      · refine r_iload_n X (j := 2) dX3_about_15 rfl rfl ?_
        refine r_iconst X (v := 1) dX3_about_16 (by decide) ?_
        refine r_icmp_le X (tgt := 23) dX3_about_17 (by decide) (fun _ => ?_) (fun _ => ?_)
        · refine r_iload_n X (j := 2) dX3_about_23 rfl rfl ?_
          refine r_if_ne X (tgt := 34) dX3_about_24 (by decide) (fun _ => ?_) (fun _ => ?_)
          · refine r_aload_n X (j := 0) dX3_about_27 rfl rfl ?_
            refine r_get X (ci := 3) (q0 := 0) (v := .ref (α 2)) inX3 rfl rfl 1 (by decide) rfl fl_X3_13 dX3_about_28 ?_
            refine r_iload_n X (j := 1) dX3_about_31 rfl rfl ?_
            refine r_iald X (q0 := 2) (t0 := 0) (kk := 2) rfl rfl dX3_about_32 ?_
            exact r_ireturn X dX3_about_33
          · refine r_aload_n X (j := 0) dX3_about_34 rfl rfl ?_
            refine r_get X (ci := 3) (q0 := 0) (v := .ref (α 2)) inX3 rfl rfl 1 (by decide) rfl fl_X3_13 dX3_about_35 ?_
            refine r_iload_n X (j := 1) dX3_about_38 rfl rfl ?_
            refine r_iald X (q0 := 2) (t0 := 0) (kk := 2) rfl rfl dX3_about_39 ?_
            refine r_iconst X (v := 1) dX3_about_40 (by decide) ?_
            refine r_icmp_eq X (tgt := 54) dX3_about_41 (by decide) (fun _ => ?_) (fun _ => ?_)
            · refine r_aload_n X (j := 0) dX3_about_54 rfl rfl ?_
              refine r_iload_n X (j := 1) dX3_about_55 rfl rfl ?_
              refine r_callVi X (q0 := 0) (ci := 3) (n := 1) (As := [.int x1]) (st := []) (c_X3_smallIn l D cI cZ α A hJ x1 σ) ml_X3_73 im_X3_smallIn se_X3_smallIn ii_X3 co_X3_smallIn (by decide +kernel) ⟨Nat.le_of_ble_eq_true rfl, Nat.le_of_ble_eq_true rfl⟩ rfl rfl rfl rfl (Nat.le_of_ble_eq_true rfl) dX3_about_56 (fun r_56 σ_56 hc_56 => ?_)
              refine r_goto X (tgt := 81) dX3_about_59 (by decide) ?_
              exact r_ireturn X dX3_about_81
            · refine r_aload_n X (j := 0) dX3_about_44 rfl rfl ?_
              refine r_get X (ci := 3) (q0 := 0) (v := .ref (α 2)) inX3 rfl rfl 1 (by decide) rfl fl_X3_13 dX3_about_45 ?_
              refine r_iload_n X (j := 1) dX3_about_48 rfl rfl ?_
              refine r_iald X (q0 := 2) (t0 := 0) (kk := 2) rfl rfl dX3_about_49 ?_
              refine r_iconst X (v := 2) dX3_about_50 (by decide) ?_
              refine r_icmp_ne X (tgt := 62) dX3_about_51 (by decide) (fun _ => ?_) (fun _ => ?_)
              · refine r_aload_n X (j := 0) dX3_about_54 rfl rfl ?_
                refine r_iload_n X (j := 1) dX3_about_55 rfl rfl ?_
                refine r_callVi X (q0 := 0) (ci := 3) (n := 1) (As := [.int x1]) (st := []) (c_X3_smallIn l D cI cZ α A hJ x1 σ) ml_X3_73 im_X3_smallIn se_X3_smallIn ii_X3 co_X3_smallIn (by decide +kernel) ⟨Nat.le_of_ble_eq_true rfl, Nat.le_of_ble_eq_true rfl⟩ rfl rfl rfl rfl (Nat.le_of_ble_eq_true rfl) dX3_about_56 (fun r_56 σ_56 hc_56 => ?_)
                refine r_goto X (tgt := 81) dX3_about_59 (by decide) ?_
                exact r_ireturn X dX3_about_81
              · refine r_aload_n X (j := 0) dX3_about_62 rfl rfl ?_
                refine r_get X (ci := 3) (q0 := 0) (v := .ref (α 2)) inX3 rfl rfl 1 (by decide) rfl fl_X3_13 dX3_about_63 ?_
                refine r_iload_n X (j := 1) dX3_about_66 rfl rfl ?_
                refine r_iald X (q0 := 2) (t0 := 0) (kk := 2) rfl rfl dX3_about_67 ?_
                refine r_iconst X (v := 3) dX3_about_68 (by decide) ?_
                refine r_icmp_ne X (tgt := 80) dX3_about_69 (by decide) (fun _ => ?_) (fun _ => ?_)
                · refine r_aload_n X (j := 0) dX3_about_72 rfl rfl ?_
                  refine r_iload_n X (j := 1) dX3_about_73 rfl rfl ?_
                  refine r_callVi X (q0 := 0) (ci := 3) (n := 1) (As := [.int x1]) (st := []) (c_X3_users l D cI cZ α A hJ x1 σ) ml_X3_104 im_X3_users se_X3_users ii_X3 co_X3_users (by decide +kernel) ⟨Nat.le_of_ble_eq_true rfl, Nat.le_of_ble_eq_true rfl⟩ rfl rfl rfl rfl (Nat.le_of_ble_eq_true rfl) dX3_about_74 (fun r_74 σ_74 hc_74 => ?_)
                  refine r_goto X (tgt := 81) dX3_about_77 (by decide) ?_
                  exact r_ireturn X dX3_about_81
                · refine r_iconst X (v := 0) dX3_about_80 (by decide) ?_
                  exact r_ireturn X dX3_about_81
        · refine r_bipush X (v := (-2)) dX3_about_20 (by decide) ?_
          exact r_ireturn X dX3_about_22
set_option maxRecDepth 100000 in
set_option maxHeartbeats 4000000 in
theorem cl_X3_block_41 (l : Launch) (D : va_G) (cI cZ : ClassId) (α : Nat → Nat) (A : Nat → Prop) (hJ : ∀ σ, va_D A ((kwM cI cZ α) σ)) {p : Program} {e : Env} {s : State} {m : MethodId} {args : Array Value} {below : List Frame} {meth : Method} {c : Code} (X : CX p s m args meth c cX3_block 4 RX3 D (tyA cI cZ) (kwM cI cZ α) A (some .int)) : ∀ (n : Nat) (x1 : Int32) (x2 : Int32) (x3 : Int32) (σ : KS), Cr p l e (rmd 1) s m args below meth c 4 D (kwM cI cZ α) A vI 41 [(0, .ref (α 0)), (1, .int x1), (2, .int x2), (3, .int x3)] [] σ (f_X3_block_41 n x1 x2 x3 σ) := by
  intro n
  induction n with
  | zero => intros; exact r_none
  | succ n ih =>
    intro x1 x2 x3 σ
    rw [f_X3_block_41]
    refine r_iload_n X (j := 3) dX3_block_41 rfl rfl ?_
    refine r_iload_n X (j := 2) dX3_block_42 rfl rfl ?_
    refine r_iconst X (v := 1) dX3_block_43 (by decide) ?_
    refine r_iload_n X (j := 1) dX3_block_44 rfl rfl ?_
    refine r_ishl X dX3_block_45 ?_
    refine r_iadd X dX3_block_46 ?_
    refine r_icmp_ge X (tgt := 63) dX3_block_47 (by decide) (fun _ => ?_) (fun _ => ?_)
    · refine r_iload_n X (j := 2) dX3_block_63 rfl rfl ?_
      exact r_ireturn X dX3_block_64
    · refine r_aload_n X (j := 0) dX3_block_50 rfl rfl ?_
      refine r_get X (ci := 3) (q0 := 0) (v := .ref (α 2)) inX3 rfl rfl 1 (by decide) rfl fl_X3_13 dX3_block_51 ?_
      refine r_iload_n X (j := 3) dX3_block_54 rfl rfl ?_
      refine r_iconst X (v := 4) dX3_block_55 (by decide) ?_
      refine r_iast X (q0 := 2) (t0 := 0) (kk := 2) rfl (fun _ => rfl) rfl dX3_block_56 ?_
      refine r_iinc X (j := 3) (v := (x3 + 1)) (lv' := [(3, .int (x3 + 1)), (0, .ref (α 0)), (1, .int x1), (2, .int x2)]) dX3_block_57 rfl rfl (by decide) rfl ?_
      refine r_goto X (tgt := 41) dX3_block_60 (by decide) ?_
      refine r_sub (lv' := [(0, .ref (α 0)), (1, .int x1), (2, .int x2), (3, .int (x3 + 1))]) [1, 2, 3, 0] rfl ?_
      exact ih x1 x2 (x3 + 1) (wr σ 2 x3 4)
set_option maxRecDepth 100000 in
set_option maxHeartbeats 4000000 in
theorem c_X3_block (l : Launch) (D : va_G) (cI cZ : ClassId) (α : Nat → Nat) (A : Nat → Prop) (hJ : ∀ σ, va_D A ((kwM cI cZ α) σ)) (x1 : Int32) (σ : KS) : Ct l D (tyA cI cZ) (kwM cI cZ α) A yX3_block cX3_block 4 (some .int) 1 vI [.ref (α 0), .int x1] σ (m_X3_block x1 σ) := by
  refine Ct.of (own := RX3) hJ (by decide) rfl (Nat.le_of_ble_eq_true rfl) ?_
  intro p e s m args below meth c X
  refine r_sub (lv' := [(0, .ref (α 0)), (1, .int x1)]) [0, 1] rfl ?_
  unfold m_X3_block
  refine r_iload_n X (j := 1) dX3_block_0 rfl rfl ?_
  refine r_if_lt X (tgt := 10) dX3_block_1 (by decide) (fun _ => ?_) (fun _ => ?_)
  · refine r_bipush X (v := (-2)) dX3_block_10 (by decide) ?_
    exact r_ireturn X dX3_block_12
  · refine r_iload_n X (j := 1) dX3_block_4 rfl rfl ?_
    refine r_bipush X (v := 8) dX3_block_5 (by decide) ?_
    refine r_icmp_lt X (tgt := 13) dX3_block_7 (by decide) (fun _ => ?_) (fun _ => ?_)
    · refine r_aload_n X (j := 0) dX3_block_13 rfl rfl ?_
      refine r_callVv X (q0 := 0) (ci := 3) (n := 0) (As := []) (st := []) (c_X3_layAside l D cI cZ α A hJ σ) ml_X3_87 im_X3_layAside se_X3_layAside ii_X3 co_X3_layAside (by decide +kernel) ⟨Nat.le_of_ble_eq_true rfl, Nat.le_of_ble_eq_true rfl⟩ rfl rfl rfl rfl (Nat.le_of_ble_eq_true rfl) dX3_block_14 (fun r_14 σ_14 hc_14 => ?_)
      refine r_aload_n X (j := 0) dX3_block_17 rfl rfl ?_
      refine r_iload_n X (j := 1) dX3_block_18 rfl rfl ?_
      refine r_callVi X (q0 := 0) (ci := 3) (n := 1) (As := [.int x1]) (st := []) (c_X3_takeBlock l D cI cZ α A hJ x1 σ_14) ml_X3_59 im_X3_takeBlock se_X3_takeBlock ii_X3 co_X3_takeBlock (by decide +kernel) ⟨Nat.le_of_ble_eq_true rfl, Nat.le_of_ble_eq_true rfl⟩ rfl rfl rfl rfl (Nat.le_of_ble_eq_true rfl) dX3_block_19 (fun r_19 σ_19 hc_19 => ?_)
      refine r_istore_n X (lv' := [(2, .int r_19), (0, .ref (α 0)), (1, .int x1)]) dX3_block_22 rfl (by decide) rfl ?_
      refine r_iload_n X (j := 0) dX3_block_23 rfl rfl ?_
      refine r_if_ge X (tgt := 32) dX3_block_24 (by decide) (fun _ => ?_) (fun _ => ?_)
      · refine r_aload_n X (j := 1) dX3_block_32 rfl rfl ?_
        refine r_get X (ci := 3) (q0 := 0) (v := .ref (α 5)) inX3 rfl rfl 4 (by decide) rfl fl_X3_23 dX3_block_33 ?_
        refine r_iload_n X (j := 0) dX3_block_36 rfl rfl ?_
        refine r_iload_n X (j := 2) dX3_block_37 rfl rfl ?_
        refine r_iast X (q0 := 5) (t0 := 0) (kk := 5) rfl (fun _ => rfl) rfl dX3_block_38 ?_
        refine r_iload_n X (j := 0) dX3_block_39 rfl rfl ?_
        refine r_istore_n X (lv' := [(3, .int r_19), (2, .int r_19), (0, .ref (α 0)), (1, .int x1)]) dX3_block_40 rfl (by decide) rfl ?_
        refine r_sub (lv' := [(0, .ref (α 0)), (1, .int x1), (2, .int r_19), (3, .int r_19)]) [2, 3, 1, 0] rfl ?_
        exact cl_X3_block_41 l D cI cZ α A hJ X FU x1 r_19 r_19 (wr σ_19 5 r_19 x1)
      · refine r_aload_n X (j := 1) dX3_block_27 rfl rfl ?_
        refine r_callVi X (q0 := 0) (ci := 3) (n := 0) (As := []) (st := []) (c_X3_fail l D cI cZ α A hJ σ_19) ml_X3_93 im_X3_fail se_X3_fail ii_X3 co_X3_fail (by decide +kernel) ⟨Nat.le_of_ble_eq_true rfl, Nat.le_of_ble_eq_true rfl⟩ rfl rfl rfl rfl (Nat.le_of_ble_eq_true rfl) dX3_block_28 (fun r_28 σ_28 hc_28 => ?_)
        exact r_ireturn X dX3_block_31
    · refine r_bipush X (v := (-2)) dX3_block_10 (by decide) ?_
      exact r_ireturn X dX3_block_12
set_option maxRecDepth 100000 in
set_option maxHeartbeats 4000000 in
theorem c_X3_frame (l : Launch) (D : va_G) (cI cZ : ClassId) (α : Nat → Nat) (A : Nat → Prop) (hJ : ∀ σ, va_D A ((kwM cI cZ α) σ)) (x1 x2 : Int32) (σ : KS) : Ct l D (tyA cI cZ) (kwM cI cZ α) A yX3_frame cX3_frame 3 (some .int) 1 vI [.ref (α 0), .int x1, .int x2] σ (m_X3_frame x1 x2 σ) := by
  refine Ct.of (own := RX3) hJ (by decide) rfl (Nat.le_of_ble_eq_true rfl) ?_
  intro p e s m args below meth c X
  refine r_sub (lv' := [(0, .ref (α 0)), (1, .int x1), (2, .int x2)]) [0, 1, 2] rfl ?_
  unfold m_X3_frame
  refine r_aload_n X (j := 0) dX3_frame_0 rfl rfl ?_
  refine r_iload_n X (j := 1) dX3_frame_1 rfl rfl ?_
  refine r_callVi X (q0 := 0) (ci := 3) (n := 1) (As := [.int x1]) (st := []) (c_X3_isLive l D cI cZ α A hJ x1 σ) ml_X3_100 im_X3_isLive se_X3_isLive ii_X3 co_X3_isLive (by decide +kernel) ⟨Nat.le_of_ble_eq_true rfl, Nat.le_of_ble_eq_true rfl⟩ rfl rfl rfl rfl (Nat.le_of_ble_eq_true rfl) dX3_frame_2 (fun r_2 σ_2 hc_2 => ?_)
  refine r_if_eq X (tgt := 37) dX3_frame_5 (by decide) (fun _ => ?_) (fun _ => ?_)
  · refine r_iconst X (v := (-1)) dX3_frame_37 (by decide) ?_
    exact r_ireturn X dX3_frame_38
  · refine r_iload_n X (j := 2) dX3_frame_8 rfl rfl ?_
    refine r_if_lt X (tgt := 37) dX3_frame_9 (by decide) (fun _ => ?_) (fun _ => ?_)
    · refine r_iconst X (v := (-1)) dX3_frame_37 (by decide) ?_
      exact r_ireturn X dX3_frame_38
    · refine r_iload_n X (j := 2) dX3_frame_12 rfl rfl ?_
      refine r_aload_n X (j := 0) dX3_frame_13 rfl rfl ?_
      refine r_get X (ci := 3) (q0 := 0) (v := .ref (α 7)) inX3 rfl rfl 6 (by decide) rfl fl_X3_29 dX3_frame_14 ?_
      refine r_iload_n X (j := 1) dX3_frame_17 rfl rfl ?_
      refine r_iald X (q0 := 7) (t0 := 0) (kk := 7) rfl rfl dX3_frame_18 ?_
      refine r_icmp_ge X (tgt := 37) dX3_frame_19 (by decide) (fun _ => ?_) (fun _ => ?_)
      · refine r_iconst X (v := (-1)) dX3_frame_37 (by decide) ?_
        exact r_ireturn X dX3_frame_38
      · refine r_aload_n X (j := 0) dX3_frame_22 rfl rfl ?_
        refine r_get X (ci := 3) (q0 := 0) (v := .ref (α 11)) inX3 rfl rfl 10 (by decide) rfl fl_X3_41 dX3_frame_23 ?_
        refine r_sipush X (v := 256) dX3_frame_26 (by decide) ?_
        refine r_iload_n X (j := 1) dX3_frame_29 rfl rfl ?_
        refine r_imul X dX3_frame_30 ?_
        refine r_iload_n X (j := 2) dX3_frame_31 rfl rfl ?_
        refine r_iadd X dX3_frame_32 ?_
        refine r_iald X (q0 := 11) (t0 := 0) (kk := 11) rfl rfl dX3_frame_33 ?_
        refine r_goto X (tgt := 38) dX3_frame_34 (by decide) ?_
        exact r_ireturn X dX3_frame_38
set_option maxRecDepth 100000 in
set_option maxHeartbeats 4000000 in
theorem c_X3_giveSmall (l : Launch) (D : va_G) (cI cZ : ClassId) (α : Nat → Nat) (A : Nat → Prop) (hJ : ∀ σ, va_D A ((kwM cI cZ α) σ)) (x1 : Int32) (σ : KS) : Ct l D (tyA cI cZ) (kwM cI cZ α) A yX3_giveSmall cX3_giveSmall 2 none 1 vV [.ref (α 0), .int x1] σ (m_X3_giveSmall x1 σ) := by
  refine Ct.of (own := RX3) hJ (by decide) rfl (Nat.le_of_ble_eq_true rfl) ?_
  intro p e s m args below meth c X
  refine r_sub (lv' := [(0, .ref (α 0)), (1, .int x1)]) [0, 1] rfl ?_
  unfold m_X3_giveSmall
  refine r_aload_n X (j := 0) dX3_giveSmall_0 rfl rfl ?_
  refine r_get X (ci := 3) (q0 := 0) (v := .ref (α 3)) inX3 rfl rfl 2 (by decide) rfl fl_X3_17 dX3_giveSmall_1 ?_
  refine r_iload_n X (j := 1) dX3_giveSmall_4 rfl rfl ?_
  refine r_iconst X (v := 0) dX3_giveSmall_5 (by decide) ?_
  refine r_zast X (q0 := 3) (t0 := 1) (kk := 3) rfl (fun _ => rfl) rfl dX3_giveSmall_6 ?_
  refine r_aload_n X (j := 0) dX3_giveSmall_7 rfl rfl ?_
  refine r_iload_n X (j := 1) dX3_giveSmall_8 rfl rfl ?_
  refine r_iconst X (v := 4) dX3_giveSmall_9 (by decide) ?_
  refine r_idiv X dX3_giveSmall_10 (by decide) ?_
  refine r_callVi X (q0 := 0) (ci := 3) (n := 1) (As := [.int (x1 / 4)]) (st := []) (c_X3_smallIn l D cI cZ α A hJ (x1 / 4) (wr σ 3 x1 0)) ml_X3_73 im_X3_smallIn se_X3_smallIn ii_X3 co_X3_smallIn (by decide +kernel) ⟨Nat.le_of_ble_eq_true rfl, Nat.le_of_ble_eq_true rfl⟩ rfl rfl rfl rfl (Nat.le_of_ble_eq_true rfl) dX3_giveSmall_11 (fun r_11 σ_11 hc_11 => ?_)
  refine r_if_ne X (tgt := 25) dX3_giveSmall_14 (by decide) (fun _ => ?_) (fun _ => ?_)
  · refine r_aload_n X (j := 0) dX3_giveSmall_17 rfl rfl ?_
    refine r_iload_n X (j := 1) dX3_giveSmall_18 rfl rfl ?_
    refine r_iconst X (v := 4) dX3_giveSmall_19 (by decide) ?_
    refine r_idiv X dX3_giveSmall_20 (by decide) ?_
    refine r_iconst X (v := 0) dX3_giveSmall_21 (by decide) ?_
    refine r_callVv X (q0 := 0) (ci := 3) (n := 2) (As := [.int (x1 / 4), .int 0]) (st := []) (c_X3_giveBlock l D cI cZ α A hJ (x1 / 4) 0 σ_11) ml_X3_76 im_X3_giveBlock se_X3_giveBlock ii_X3 co_X3_giveBlock (by decide +kernel) ⟨Nat.le_of_ble_eq_true rfl, Nat.le_of_ble_eq_true rfl⟩ rfl rfl rfl rfl (Nat.le_of_ble_eq_true rfl) dX3_giveSmall_22 (fun r_22 σ_22 hc_22 => ?_)
    exact r_return X dX3_giveSmall_25
  · exact r_return X dX3_giveSmall_25
set_option maxRecDepth 100000 in
set_option maxHeartbeats 4000000 in
theorem c_X3_has (l : Launch) (D : va_G) (cI cZ : ClassId) (α : Nat → Nat) (A : Nat → Prop) (hJ : ∀ σ, va_D A ((kwM cI cZ α) σ)) (x1 x2 : Int32) (σ : KS) : Ct l D (tyA cI cZ) (kwM cI cZ α) A yX3_has cX3_has 3 (some .boolean) 1 vI [.ref (α 0), .int x1, .int x2] σ (m_X3_has x1 x2 σ) := by
  refine Ct.of (own := RX3) hJ (by decide) rfl (Nat.le_of_ble_eq_true rfl) ?_
  intro p e s m args below meth c X
  refine r_sub (lv' := [(0, .ref (α 0)), (1, .int x1), (2, .int x2)]) [0, 1, 2] rfl ?_
  unfold m_X3_has
  refine r_aload_n X (j := 0) dX3_has_0 rfl rfl ?_
  refine r_iload_n X (j := 1) dX3_has_1 rfl rfl ?_
  refine r_callVi X (q0 := 0) (ci := 3) (n := 1) (As := [.int x1]) (st := []) (c_X3_isLive l D cI cZ α A hJ x1 σ) ml_X3_100 im_X3_isLive se_X3_isLive ii_X3 co_X3_isLive (by decide +kernel) ⟨Nat.le_of_ble_eq_true rfl, Nat.le_of_ble_eq_true rfl⟩ rfl rfl rfl rfl (Nat.le_of_ble_eq_true rfl) dX3_has_2 (fun r_2 σ_2 hc_2 => ?_)
  refine r_if_eq X (tgt := 29) dX3_has_5 (by decide) (fun _ => ?_) (fun _ => ?_)
  · refine r_iconst X (v := 0) dX3_has_29 (by decide) ?_
    exact r_zreturn X (by decide) dX3_has_30
  · refine r_iload_n X (j := 2) dX3_has_8 rfl rfl ?_
    refine r_if_lt X (tgt := 29) dX3_has_9 (by decide) (fun _ => ?_) (fun _ => ?_)
    · refine r_iconst X (v := 0) dX3_has_29 (by decide) ?_
      exact r_zreturn X (by decide) dX3_has_30
    · refine r_iload_n X (j := 2) dX3_has_12 rfl rfl ?_
      refine r_bipush X (v := 64) dX3_has_13 (by decide) ?_
      refine r_idiv X dX3_has_15 (by decide) ?_
      refine r_aload_n X (j := 0) dX3_has_16 rfl rfl ?_
      refine r_get X (ci := 3) (q0 := 0) (v := .ref (α 7)) inX3 rfl rfl 6 (by decide) rfl fl_X3_29 dX3_has_17 ?_
      refine r_iload_n X (j := 1) dX3_has_20 rfl rfl ?_
      refine r_iald X (q0 := 7) (t0 := 0) (kk := 7) rfl rfl dX3_has_21 ?_
      refine r_icmp_ge X (tgt := 29) dX3_has_22 (by decide) (fun _ => ?_) (fun _ => ?_)
      · refine r_iconst X (v := 0) dX3_has_29 (by decide) ?_
        exact r_zreturn X (by decide) dX3_has_30
      · refine r_iconst X (v := 1) dX3_has_25 (by decide) ?_
        refine r_goto X (tgt := 30) dX3_has_26 (by decide) ?_
        exact r_zreturn X (by decide) dX3_has_30
end
section
set_option maxRecDepth 100000 in
set_option maxHeartbeats 4000000 in
theorem cl_X3_process_27 (l : Launch) (D : va_G) (cI cZ : ClassId) (α : Nat → Nat) (A : Nat → Prop) (hJ : ∀ σ, va_D A ((kwM cI cZ α) σ)) {p : Program} {e : Env} {s : State} {m : MethodId} {args : Array Value} {below : List Frame} {meth : Method} {c : Code} (X : CX p s m args meth c cX3_process 5 RX3 D (tyA cI cZ) (kwM cI cZ α) A (some .int)) : ∀ (n : Nat) (x1 : Int32) (x2 : Int32) (x3 : Int32) (x4 : Int32) (σ : KS), Cr p l e (rmd 1) s m args below meth c 5 D (kwM cI cZ α) A vI 27 [(0, .ref (α 0)), (1, .int x1), (2, .int x2), (3, .int x3), (4, .int x4)] [] σ (f_X3_process_27 n x1 x2 x3 x4 σ) := by
  intro n
  induction n with
  | zero => intros; exact r_none
  | succ n ih =>
    intro x1 x2 x3 x4 σ
    rw [f_X3_process_27]
    refine r_iload X (j := 4) dX3_process_27 rfl ?_
    refine r_bipush X (v := 16) dX3_process_29 (by decide) ?_
    refine r_icmp_ge X (tgt := 69) dX3_process_31 (by decide) (fun _ => ?_) (fun _ => ?_)
    · refine r_iload_n X (j := 2) dX3_process_69 rfl rfl ?_
      refine r_ite (fun hs0 => ?_) (fun hs0 => ?_)
      · refine r_tabIn X (off := 30) (tgt := 100) dX3_process_70 (by rw [hs0]; decide) (by rw [hs0]; decide) (by rw [hs0]; decide) (by decide) ?_
        refine r_aload_n X (j := 0) dX3_process_100 rfl rfl ?_
        refine r_get X (ci := 3) (q0 := 0) (v := .ref (α 6)) inX3 rfl rfl 5 (by decide) rfl fl_X3_26 dX3_process_101 ?_
        refine r_iload_n X (j := 1) dX3_process_104 rfl rfl ?_
        refine r_iald X (q0 := 6) (t0 := 0) (kk := 6) rfl rfl dX3_process_105 ?_
        exact r_ireturn X dX3_process_106
      · refine r_ite (fun hs1 => ?_) (fun hs1 => ?_)
        · refine r_tabIn X (off := 37) (tgt := 107) dX3_process_70 (by rw [hs1]; decide) (by rw [hs1]; decide) (by rw [hs1]; decide) (by decide) ?_
          refine r_aload_n X (j := 0) dX3_process_107 rfl rfl ?_
          refine r_get X (ci := 3) (q0 := 0) (v := .ref (α 6)) inX3 rfl rfl 5 (by decide) rfl fl_X3_26 dX3_process_108 ?_
          refine r_iload_n X (j := 1) dX3_process_111 rfl rfl ?_
          refine r_iald X (q0 := 6) (t0 := 0) (kk := 6) rfl rfl dX3_process_112 ?_
          refine r_iconst X (v := 1) dX3_process_113 (by decide) ?_
          refine r_icmp_ne X (tgt := 126) dX3_process_114 (by decide) (fun _ => ?_) (fun _ => ?_)
          · refine r_aload_n X (j := 0) dX3_process_117 rfl rfl ?_
            refine r_get X (ci := 3) (q0 := 0) (v := .ref (α 7)) inX3 rfl rfl 6 (by decide) rfl fl_X3_29 dX3_process_118 ?_
            refine r_iload_n X (j := 1) dX3_process_121 rfl rfl ?_
            refine r_iald X (q0 := 7) (t0 := 0) (kk := 7) rfl rfl dX3_process_122 ?_
            refine r_goto X (tgt := 127) dX3_process_123 (by decide) ?_
            exact r_ireturn X dX3_process_127
          · refine r_iconst X (v := 0) dX3_process_126 (by decide) ?_
            exact r_ireturn X dX3_process_127
        · refine r_ite (fun hs2 => ?_) (fun hs2 => ?_)
          · refine r_tabIn X (off := 58) (tgt := 128) dX3_process_70 (by rw [hs2]; decide) (by rw [hs2]; decide) (by rw [hs2]; decide) (by decide) ?_
            refine r_aload_n X (j := 0) dX3_process_128 rfl rfl ?_
            refine r_get X (ci := 3) (q0 := 0) (v := .ref (α 6)) inX3 rfl rfl 5 (by decide) rfl fl_X3_26 dX3_process_129 ?_
            refine r_iload_n X (j := 1) dX3_process_132 rfl rfl ?_
            refine r_iald X (q0 := 6) (t0 := 0) (kk := 6) rfl rfl dX3_process_133 ?_
            refine r_if_ne X (tgt := 141) dX3_process_134 (by decide) (fun _ => ?_) (fun _ => ?_)
            · refine r_iconst X (v := (-1)) dX3_process_137 (by decide) ?_
              refine r_goto X (tgt := 147) dX3_process_138 (by decide) ?_
              exact r_ireturn X dX3_process_147
            · refine r_aload_n X (j := 0) dX3_process_141 rfl rfl ?_
              refine r_get X (ci := 3) (q0 := 0) (v := .ref (α 8)) inX3 rfl rfl 7 (by decide) rfl fl_X3_32 dX3_process_142 ?_
              refine r_iload_n X (j := 1) dX3_process_145 rfl rfl ?_
              refine r_iald X (q0 := 8) (t0 := 0) (kk := 8) rfl rfl dX3_process_146 ?_
              exact r_ireturn X dX3_process_147
          · refine r_ite (fun hs3 => ?_) (fun hs3 => ?_)
            · refine r_tabIn X (off := 78) (tgt := 148) dX3_process_70 (by rw [hs3]; decide) (by rw [hs3]; decide) (by rw [hs3]; decide) (by decide) ?_
              refine r_iload_n X (j := 3) dX3_process_148 rfl rfl ?_
              exact r_ireturn X dX3_process_149
            · refine r_tabOut X (tgt := 150) dX3_process_70 (by have hq0 := lv_neT hs0 (a := 0) (by decide); have hq1 := lv_neT hs1 (a := 1) (by decide); have hq2 := lv_neT hs2 (a := 2) (by decide); have hq3 := lv_neT hs3 (a := 3) (by decide); omega) (by decide) ?_
              refine r_aload_n X (j := 0) dX3_process_150 rfl rfl ?_
              refine r_iload_n X (j := 1) dX3_process_151 rfl rfl ?_
              refine r_callVi X (q0 := 0) (ci := 3) (n := 1) (As := [.int x1]) (st := []) (c_X3_placeInRow l D cI cZ α A hJ x1 σ) ml_X3_125 im_X3_placeInRow se_X3_placeInRow ii_X3 co_X3_placeInRow (by decide +kernel) ⟨Nat.le_of_ble_eq_true rfl, Nat.le_of_ble_eq_true rfl⟩ rfl rfl rfl rfl (Nat.le_of_ble_eq_true rfl) dX3_process_152 (fun r_152 σ_152 hc_152 => ?_)
              exact r_ireturn X dX3_process_155
    · refine r_iload_n X (j := 3) dX3_process_34 rfl rfl ?_
      refine r_aload_n X (j := 0) dX3_process_35 rfl rfl ?_
      refine r_get X (ci := 3) (q0 := 0) (v := .ref (α 6)) inX3 rfl rfl 5 (by decide) rfl fl_X3_26 dX3_process_36 ?_
      refine r_iload X (j := 4) dX3_process_39 rfl ?_
      refine r_iald X (q0 := 6) (t0 := 0) (kk := 6) rfl rfl dX3_process_41 ?_
      refine r_if_eq X (tgt := 60) dX3_process_42 (by decide) (fun _ => ?_) (fun _ => ?_)
      · refine r_iconst X (v := 0) dX3_process_60 (by decide) ?_
        refine r_iadd X dX3_process_61 ?_
        refine r_istore_n X (lv' := [(3, .int (x3 + 0)), (0, .ref (α 0)), (1, .int x1), (2, .int x2), (4, .int x4)]) dX3_process_62 rfl (by decide) rfl ?_
        refine r_iinc X (j := 4) (v := (x4 + 1)) (lv' := [(4, .int (x4 + 1)), (3, .int (x3 + 0)), (0, .ref (α 0)), (1, .int x1), (2, .int x2)]) dX3_process_63 rfl rfl (by decide) rfl ?_
        refine r_goto X (tgt := 27) dX3_process_66 (by decide) ?_
        refine r_sub (lv' := [(0, .ref (α 0)), (1, .int x1), (2, .int x2), (3, .int (x3 + 0)), (4, .int (x4 + 1))]) [2, 3, 4, 1, 0] rfl ?_
        exact ih x1 x2 (x3 + 0) (x4 + 1) σ
      · refine r_aload_n X (j := 0) dX3_process_45 rfl rfl ?_
        refine r_get X (ci := 3) (q0 := 0) (v := .ref (α 8)) inX3 rfl rfl 7 (by decide) rfl fl_X3_32 dX3_process_46 ?_
        refine r_iload X (j := 4) dX3_process_49 rfl ?_
        refine r_iald X (q0 := 8) (t0 := 0) (kk := 8) rfl rfl dX3_process_51 ?_
        refine r_iload_n X (j := 1) dX3_process_52 rfl rfl ?_
        refine r_icmp_ne X (tgt := 60) dX3_process_53 (by decide) (fun _ => ?_) (fun _ => ?_)
        · refine r_iconst X (v := 1) dX3_process_56 (by decide) ?_
          refine r_goto X (tgt := 61) dX3_process_57 (by decide) ?_
          refine r_iadd X dX3_process_61 ?_
          refine r_istore_n X (lv' := [(3, .int (x3 + 1)), (0, .ref (α 0)), (1, .int x1), (2, .int x2), (4, .int x4)]) dX3_process_62 rfl (by decide) rfl ?_
          refine r_iinc X (j := 4) (v := (x4 + 1)) (lv' := [(4, .int (x4 + 1)), (3, .int (x3 + 1)), (0, .ref (α 0)), (1, .int x1), (2, .int x2)]) dX3_process_63 rfl rfl (by decide) rfl ?_
          refine r_goto X (tgt := 27) dX3_process_66 (by decide) ?_
          refine r_sub (lv' := [(0, .ref (α 0)), (1, .int x1), (2, .int x2), (3, .int (x3 + 1)), (4, .int (x4 + 1))]) [2, 3, 4, 1, 0] rfl ?_
          exact ih x1 x2 (x3 + 1) (x4 + 1) σ
        · refine r_iconst X (v := 0) dX3_process_60 (by decide) ?_
          refine r_iadd X dX3_process_61 ?_
          refine r_istore_n X (lv' := [(3, .int (x3 + 0)), (0, .ref (α 0)), (1, .int x1), (2, .int x2), (4, .int x4)]) dX3_process_62 rfl (by decide) rfl ?_
          refine r_iinc X (j := 4) (v := (x4 + 1)) (lv' := [(4, .int (x4 + 1)), (3, .int (x3 + 0)), (0, .ref (α 0)), (1, .int x1), (2, .int x2)]) dX3_process_63 rfl rfl (by decide) rfl ?_
          refine r_goto X (tgt := 27) dX3_process_66 (by decide) ?_
          refine r_sub (lv' := [(0, .ref (α 0)), (1, .int x1), (2, .int x2), (3, .int (x3 + 0)), (4, .int (x4 + 1))]) [2, 3, 4, 1, 0] rfl ?_
          exact ih x1 x2 (x3 + 0) (x4 + 1) σ
set_option maxRecDepth 100000 in
set_option maxHeartbeats 4000000 in
theorem c_X3_process (l : Launch) (D : va_G) (cI cZ : ClassId) (α : Nat → Nat) (A : Nat → Prop) (hJ : ∀ σ, va_D A ((kwM cI cZ α) σ)) (x1 x2 : Int32) (σ : KS) : Ct l D (tyA cI cZ) (kwM cI cZ α) A yX3_process cX3_process 5 (some .int) 1 vI [.ref (α 0), .int x1, .int x2] σ (m_X3_process x1 x2 σ) := by
  refine Ct.of (own := RX3) hJ (by decide) rfl (Nat.le_of_ble_eq_true rfl) ?_
  intro p e s m args below meth c X
  refine r_sub (lv' := [(0, .ref (α 0)), (1, .int x1), (2, .int x2)]) [0, 1, 2] rfl ?_
  unfold m_X3_process
  refine r_iload_n X (j := 1) dX3_process_0 rfl rfl ?_
  refine r_if_lt X (tgt := 19) dX3_process_1 (by decide) (fun _ => ?_) (fun _ => ?_)
  · refine r_bipush X (v := (-2)) dX3_process_19 (by decide) ?_
    exact r_ireturn X dX3_process_21
  · refine r_iload_n X (j := 1) dX3_process_4 rfl rfl ?_
    refine r_bipush X (v := 16) dX3_process_5 (by decide) ?_
    refine r_icmp_ge X (tgt := 19) dX3_process_7 (by decide) (fun _ => ?_) (fun _ => ?_)
    · refine r_bipush X (v := (-2)) dX3_process_19 (by decide) ?_
      exact r_ireturn X dX3_process_21
    · refine r_iload_n X (j := 2) dX3_process_10 rfl rfl ?_
      refine r_if_lt X (tgt := 19) dX3_process_11 (by decide) (fun _ => ?_) (fun _ => ?_)
      · refine r_bipush X (v := (-2)) dX3_process_19 (by decide) ?_
        exact r_ireturn X dX3_process_21
      · refine r_iload_n X (j := 2) dX3_process_14 rfl rfl ?_
        refine r_iconst X (v := 4) dX3_process_15 (by decide) ?_
        refine r_icmp_le X (tgt := 22) dX3_process_16 (by decide) (fun _ => ?_) (fun _ => ?_)
        · refine r_iconst X (v := 0) dX3_process_22 (by decide) ?_
          refine r_istore_n X (lv' := [(3, .int 0), (0, .ref (α 0)), (1, .int x1), (2, .int x2)]) dX3_process_23 rfl (by decide) rfl ?_
          refine r_iconst X (v := 0) dX3_process_24 (by decide) ?_
          refine r_istore X (lv' := [(4, .int 0), (3, .int 0), (0, .ref (α 0)), (1, .int x1), (2, .int x2)]) dX3_process_25 (by decide) rfl ?_
          refine r_sub (lv' := [(0, .ref (α 0)), (1, .int x1), (2, .int x2), (3, .int 0), (4, .int 0)]) [2, 3, 4, 1, 0] rfl ?_
          exact cl_X3_process_27 l D cI cZ α A hJ X FU x1 x2 0 0 σ
        · refine r_bipush X (v := (-2)) dX3_process_19 (by decide) ?_
          exact r_ireturn X dX3_process_21
set_option maxRecDepth 100000 in
set_option maxHeartbeats 4000000 in
theorem c_X3_takeFrame (l : Launch) (D : va_G) (cI cZ : ClassId) (α : Nat → Nat) (A : Nat → Prop) (hJ : ∀ σ, va_D A ((kwM cI cZ α) σ)) (x1 : Int32) (σ : KS) : Ct l D (tyA cI cZ) (kwM cI cZ α) A yX3_takeFrame cX3_takeFrame 3 (some .int) 1 vI [.ref (α 0), .int x1] σ (m_X3_takeFrame x1 σ) := by
  refine Ct.of (own := RX3) hJ (by decide) rfl (Nat.le_of_ble_eq_true rfl) ?_
  intro p e s m args below meth c X
  refine r_sub (lv' := [(0, .ref (α 0)), (1, .int x1)]) [0, 1] rfl ?_
  unfold m_X3_takeFrame
  refine r_aload_n X (j := 0) dX3_takeFrame_0 rfl rfl ?_
  refine r_iconst X (v := 0) dX3_takeFrame_1 (by decide) ?_
  refine r_callVi X (q0 := 0) (ci := 3) (n := 1) (As := [.int 0]) (st := []) (c_X3_takeBlock l D cI cZ α A hJ 0 σ) ml_X3_59 im_X3_takeBlock se_X3_takeBlock ii_X3 co_X3_takeBlock (by decide +kernel) ⟨Nat.le_of_ble_eq_true rfl, Nat.le_of_ble_eq_true rfl⟩ rfl rfl rfl rfl (Nat.le_of_ble_eq_true rfl) dX3_takeFrame_2 (fun r_2 σ_2 hc_2 => ?_)
  refine r_istore_n X (lv' := [(2, .int r_2), (0, .ref (α 0)), (1, .int x1)]) dX3_takeFrame_5 rfl (by decide) rfl ?_
  refine r_iload_n X (j := 0) dX3_takeFrame_6 rfl rfl ?_
  refine r_if_lt X (tgt := 17) dX3_takeFrame_7 (by decide) (fun _ => ?_) (fun _ => ?_)
  · refine r_iload_n X (j := 0) dX3_takeFrame_17 rfl rfl ?_
    exact r_ireturn X dX3_takeFrame_18
  · refine r_aload_n X (j := 1) dX3_takeFrame_10 rfl rfl ?_
    refine r_get X (ci := 3) (q0 := 0) (v := .ref (α 2)) inX3 rfl rfl 1 (by decide) rfl fl_X3_13 dX3_takeFrame_11 ?_
    refine r_iload_n X (j := 0) dX3_takeFrame_14 rfl rfl ?_
    refine r_iload_n X (j := 2) dX3_takeFrame_15 rfl rfl ?_
    refine r_iast X (q0 := 2) (t0 := 0) (kk := 2) rfl (fun _ => rfl) rfl dX3_takeFrame_16 ?_
    refine r_iload_n X (j := 0) dX3_takeFrame_17 rfl rfl ?_
    exact r_ireturn X dX3_takeFrame_18
set_option maxRecDepth 100000 in
set_option maxHeartbeats 4000000 in
theorem c_X3_unblock (l : Launch) (D : va_G) (cI cZ : ClassId) (α : Nat → Nat) (A : Nat → Prop) (hJ : ∀ σ, va_D A ((kwM cI cZ α) σ)) (x1 : Int32) (σ : KS) : Ct l D (tyA cI cZ) (kwM cI cZ α) A yX3_unblock cX3_unblock 3 (some .int) 1 vI [.ref (α 0), .int x1] σ (m_X3_unblock x1 σ) := by
  refine Ct.of (own := RX3) hJ (by decide) rfl (Nat.le_of_ble_eq_true rfl) ?_
  intro p e s m args below meth c X
  refine r_sub (lv' := [(0, .ref (α 0)), (1, .int x1)]) [0, 1] rfl ?_
  unfold m_X3_unblock
  refine r_iload_n X (j := 1) dX3_unblock_0 rfl rfl ?_
  refine r_if_lt X (tgt := 20) dX3_unblock_1 (by decide) (fun _ => ?_) (fun _ => ?_)
  · refine r_bipush X (v := (-2)) dX3_unblock_20 (by decide) ?_
    exact r_ireturn X dX3_unblock_22
  · refine r_iload_n X (j := 1) dX3_unblock_4 rfl rfl ?_
    refine r_sipush X (v := 128) dX3_unblock_5 (by decide) ?_
    refine r_icmp_ge X (tgt := 20) dX3_unblock_8 (by decide) (fun _ => ?_) (fun _ => ?_)
    · refine r_bipush X (v := (-2)) dX3_unblock_20 (by decide) ?_
      exact r_ireturn X dX3_unblock_22
    · refine r_aload_n X (j := 0) dX3_unblock_11 rfl rfl ?_
      refine r_get X (ci := 3) (q0 := 0) (v := .ref (α 5)) inX3 rfl rfl 4 (by decide) rfl fl_X3_23 dX3_unblock_12 ?_
      refine r_iload_n X (j := 1) dX3_unblock_15 rfl rfl ?_
      refine r_iald X (q0 := 5) (t0 := 0) (kk := 5) rfl rfl dX3_unblock_16 ?_
      refine r_if_ge X (tgt := 23) dX3_unblock_17 (by decide) (fun _ => ?_) (fun _ => ?_)
      · refine r_aload_n X (j := 0) dX3_unblock_23 rfl rfl ?_
        refine r_get X (ci := 3) (q0 := 0) (v := .ref (α 5)) inX3 rfl rfl 4 (by decide) rfl fl_X3_23 dX3_unblock_24 ?_
        refine r_iload_n X (j := 1) dX3_unblock_27 rfl rfl ?_
        refine r_iald X (q0 := 5) (t0 := 0) (kk := 5) rfl rfl dX3_unblock_28 ?_
        refine r_istore_n X (lv' := [(2, .int (rd σ 5 x1)), (0, .ref (α 0)), (1, .int x1)]) dX3_unblock_29 rfl (by decide) rfl ?_
        refine r_aload_n X (j := 1) dX3_unblock_30 rfl rfl ?_
        refine r_get X (ci := 3) (q0 := 0) (v := .ref (α 5)) inX3 rfl rfl 4 (by decide) rfl fl_X3_23 dX3_unblock_31 ?_
        refine r_iload_n X (j := 2) dX3_unblock_34 rfl rfl ?_
        refine r_iconst X (v := (-1)) dX3_unblock_35 (by decide) ?_
        refine r_iast X (q0 := 5) (t0 := 0) (kk := 5) rfl (fun _ => rfl) rfl dX3_unblock_36 ?_
        refine r_aload_n X (j := 1) dX3_unblock_37 rfl rfl ?_
        refine r_iload_n X (j := 2) dX3_unblock_38 rfl rfl ?_
        refine r_iload_n X (j := 0) dX3_unblock_39 rfl rfl ?_
        refine r_callVv X (q0 := 0) (ci := 3) (n := 2) (As := [.int x1, .int (rd σ 5 x1)]) (st := []) (c_X3_giveBlock l D cI cZ α A hJ x1 (rd σ 5 x1) (wr σ 5 x1 (-1))) ml_X3_76 im_X3_giveBlock se_X3_giveBlock ii_X3 co_X3_giveBlock (by decide +kernel) ⟨Nat.le_of_ble_eq_true rfl, Nat.le_of_ble_eq_true rfl⟩ rfl rfl rfl rfl (Nat.le_of_ble_eq_true rfl) dX3_unblock_40 (fun r_40 σ_40 hc_40 => ?_)
        refine r_iload_n X (j := 0) dX3_unblock_43 rfl rfl ?_
        exact r_ireturn X dX3_unblock_44
      · refine r_bipush X (v := (-2)) dX3_unblock_20 (by decide) ?_
        exact r_ireturn X dX3_unblock_22
set_option maxRecDepth 100000 in
set_option maxHeartbeats 4000000 in
theorem c_X3_dropPage (l : Launch) (D : va_G) (cI cZ : ClassId) (α : Nat → Nat) (A : Nat → Prop) (hJ : ∀ σ, va_D A ((kwM cI cZ α) σ)) (x1 : Int32) (σ : KS) : Ct l D (tyA cI cZ) (kwM cI cZ α) A yX3_dropPage cX3_dropPage 4 none 2 vV [.ref (α 0), .int x1] σ (m_X3_dropPage x1 σ) := by
  refine Ct.of (own := RX3) hJ (by decide) rfl (Nat.le_of_ble_eq_true rfl) ?_
  intro p e s m args below meth c X
  refine r_sub (lv' := [(0, .ref (α 0)), (1, .int x1)]) [0, 1] rfl ?_
  unfold m_X3_dropPage
  refine r_aload_n X (j := 0) dX3_dropPage_0 rfl rfl ?_
  refine r_get X (ci := 3) (q0 := 0) (v := .ref (α 7)) inX3 rfl rfl 6 (by decide) rfl fl_X3_29 dX3_dropPage_1 ?_
  refine r_iload_n X (j := 1) dX3_dropPage_4 rfl rfl ?_
  refine r_iald X (q0 := 7) (t0 := 0) (kk := 7) rfl rfl dX3_dropPage_5 ?_
  refine r_iconst X (v := 1) dX3_dropPage_6 (by decide) ?_
  refine r_isub X dX3_dropPage_7 ?_
  refine r_istore_n X (lv' := [(2, .int ((rd σ 7 x1) - 1)), (0, .ref (α 0)), (1, .int x1)]) dX3_dropPage_8 rfl (by decide) rfl ?_
  refine r_aload_n X (j := 1) dX3_dropPage_9 rfl rfl ?_
  refine r_get X (ci := 3) (q0 := 0) (v := .ref (α 11)) inX3 rfl rfl 10 (by decide) rfl fl_X3_41 dX3_dropPage_10 ?_
  refine r_sipush X (v := 256) dX3_dropPage_13 (by decide) ?_
  refine r_iload_n X (j := 2) dX3_dropPage_16 rfl rfl ?_
  refine r_imul X dX3_dropPage_17 ?_
  refine r_iload_n X (j := 0) dX3_dropPage_18 rfl rfl ?_
  refine r_iadd X dX3_dropPage_19 ?_
  refine r_iald X (q0 := 11) (t0 := 0) (kk := 11) rfl rfl dX3_dropPage_20 ?_
  refine r_istore_n X (lv' := [(3, .int (rd σ 11 ((256 * x1) + ((rd σ 7 x1) - 1)))), (2, .int ((rd σ 7 x1) - 1)), (0, .ref (α 0)), (1, .int x1)]) dX3_dropPage_21 rfl (by decide) rfl ?_
  refine r_aload_n X (j := 2) dX3_dropPage_22 rfl rfl ?_
  refine r_iload_n X (j := 0) dX3_dropPage_23 rfl rfl ?_
  refine r_callVi X (q0 := 0) (ci := 3) (n := 1) (As := [.int (rd σ 11 ((256 * x1) + ((rd σ 7 x1) - 1)))]) (st := []) (c_X3_users l D cI cZ α A hJ (rd σ 11 ((256 * x1) + ((rd σ 7 x1) - 1))) σ) ml_X3_104 im_X3_users se_X3_users ii_X3 co_X3_users (by decide +kernel) ⟨Nat.le_of_ble_eq_true rfl, Nat.le_of_ble_eq_true rfl⟩ rfl rfl rfl rfl (Nat.le_of_ble_eq_true rfl) dX3_dropPage_24 (fun r_24 σ_24 hc_24 => ?_)
  refine r_iconst X (v := 1) dX3_dropPage_27 (by decide) ?_
  refine r_icmp_ne X (tgt := 37) dX3_dropPage_28 (by decide) (fun _ => ?_) (fun _ => ?_)
  · refine r_aload_n X (j := 2) dX3_dropPage_31 rfl rfl ?_
    refine r_iload_n X (j := 0) dX3_dropPage_32 rfl rfl ?_
    refine r_iconst X (v := 0) dX3_dropPage_33 (by decide) ?_
    refine r_callVv X (q0 := 0) (ci := 3) (n := 2) (As := [.int (rd σ 11 ((256 * x1) + ((rd σ 7 x1) - 1))), .int 0]) (st := []) (c_X3_giveBlock l D cI cZ α A hJ (rd σ 11 ((256 * x1) + ((rd σ 7 x1) - 1))) 0 σ_24) ml_X3_76 im_X3_giveBlock se_X3_giveBlock ii_X3 co_X3_giveBlock (by decide +kernel) ⟨Nat.le_of_ble_eq_true rfl, Nat.le_of_ble_eq_true rfl⟩ rfl rfl rfl rfl (Nat.le_of_ble_eq_true rfl) dX3_dropPage_34 (fun r_34 σ_34 hc_34 => ?_)
    refine r_aload_n X (j := 2) dX3_dropPage_37 rfl rfl ?_
    refine r_get X (ci := 3) (q0 := 0) (v := .ref (α 7)) inX3 rfl rfl 6 (by decide) rfl fl_X3_29 dX3_dropPage_38 ?_
    refine r_iload_n X (j := 3) dX3_dropPage_41 rfl rfl ?_
    refine r_iload_n X (j := 1) dX3_dropPage_42 rfl rfl ?_
    refine r_iast X (q0 := 7) (t0 := 0) (kk := 7) rfl (fun _ => rfl) rfl dX3_dropPage_43 ?_
    refine r_iload_n X (j := 1) dX3_dropPage_44 rfl rfl ?_
    refine r_bipush X (v := 16) dX3_dropPage_45 (by decide) ?_
    refine r_irem X dX3_dropPage_47 (by decide) ?_
    refine r_if_ne X (tgt := 69) dX3_dropPage_48 (by decide) (fun _ => ?_) (fun _ => ?_)
    · refine r_aload_n X (j := 2) dX3_dropPage_51 rfl rfl ?_
      refine r_aload_n X (j := 2) dX3_dropPage_52 rfl rfl ?_
      refine r_get X (ci := 3) (q0 := 0) (v := .ref (α 12)) inX3 rfl rfl 11 (by decide) rfl fl_X3_44 dX3_dropPage_53 ?_
      refine r_bipush X (v := 16) dX3_dropPage_56 (by decide) ?_
      refine r_iload_n X (j := 3) dX3_dropPage_58 rfl rfl ?_
      refine r_imul X dX3_dropPage_59 ?_
      refine r_iload_n X (j := 1) dX3_dropPage_60 rfl rfl ?_
      refine r_bipush X (v := 16) dX3_dropPage_61 (by decide) ?_
      refine r_idiv X dX3_dropPage_63 (by decide) ?_
      refine r_iadd X dX3_dropPage_64 ?_
      refine r_iald X (q0 := 12) (t0 := 0) (kk := 12) rfl rfl dX3_dropPage_65 ?_
      refine r_callVv X (q0 := 0) (ci := 3) (n := 1) (As := [.int (rd (wr σ_34 7 x1 ((rd σ 7 x1) - 1)) 12 ((16 * x1) + (((rd σ 7 x1) - 1) / 16)))]) (st := []) (c_X3_giveSmall l D cI cZ α A hJ (rd (wr σ_34 7 x1 ((rd σ 7 x1) - 1)) 12 ((16 * x1) + (((rd σ 7 x1) - 1) / 16))) (wr σ_34 7 x1 ((rd σ 7 x1) - 1))) ml_X3_107 im_X3_giveSmall se_X3_giveSmall ii_X3 co_X3_giveSmall (by decide +kernel) ⟨Nat.le_of_ble_eq_true rfl, Nat.le_of_ble_eq_true rfl⟩ rfl rfl rfl rfl (Nat.le_of_ble_eq_true rfl) dX3_dropPage_66 (fun r_66 σ_66 hc_66 => ?_)
      exact r_return X dX3_dropPage_69
    · exact r_return X dX3_dropPage_69
  · refine r_aload_n X (j := 2) dX3_dropPage_37 rfl rfl ?_
    refine r_get X (ci := 3) (q0 := 0) (v := .ref (α 7)) inX3 rfl rfl 6 (by decide) rfl fl_X3_29 dX3_dropPage_38 ?_
    refine r_iload_n X (j := 3) dX3_dropPage_41 rfl rfl ?_
    refine r_iload_n X (j := 1) dX3_dropPage_42 rfl rfl ?_
    refine r_iast X (q0 := 7) (t0 := 0) (kk := 7) rfl (fun _ => rfl) rfl dX3_dropPage_43 ?_
    refine r_iload_n X (j := 1) dX3_dropPage_44 rfl rfl ?_
    refine r_bipush X (v := 16) dX3_dropPage_45 (by decide) ?_
    refine r_irem X dX3_dropPage_47 (by decide) ?_
    refine r_if_ne X (tgt := 69) dX3_dropPage_48 (by decide) (fun _ => ?_) (fun _ => ?_)
    · refine r_aload_n X (j := 2) dX3_dropPage_51 rfl rfl ?_
      refine r_aload_n X (j := 2) dX3_dropPage_52 rfl rfl ?_
      refine r_get X (ci := 3) (q0 := 0) (v := .ref (α 12)) inX3 rfl rfl 11 (by decide) rfl fl_X3_44 dX3_dropPage_53 ?_
      refine r_bipush X (v := 16) dX3_dropPage_56 (by decide) ?_
      refine r_iload_n X (j := 3) dX3_dropPage_58 rfl rfl ?_
      refine r_imul X dX3_dropPage_59 ?_
      refine r_iload_n X (j := 1) dX3_dropPage_60 rfl rfl ?_
      refine r_bipush X (v := 16) dX3_dropPage_61 (by decide) ?_
      refine r_idiv X dX3_dropPage_63 (by decide) ?_
      refine r_iadd X dX3_dropPage_64 ?_
      refine r_iald X (q0 := 12) (t0 := 0) (kk := 12) rfl rfl dX3_dropPage_65 ?_
      refine r_callVv X (q0 := 0) (ci := 3) (n := 1) (As := [.int (rd (wr σ_24 7 x1 ((rd σ 7 x1) - 1)) 12 ((16 * x1) + (((rd σ 7 x1) - 1) / 16)))]) (st := []) (c_X3_giveSmall l D cI cZ α A hJ (rd (wr σ_24 7 x1 ((rd σ 7 x1) - 1)) 12 ((16 * x1) + (((rd σ 7 x1) - 1) / 16))) (wr σ_24 7 x1 ((rd σ 7 x1) - 1))) ml_X3_107 im_X3_giveSmall se_X3_giveSmall ii_X3 co_X3_giveSmall (by decide +kernel) ⟨Nat.le_of_ble_eq_true rfl, Nat.le_of_ble_eq_true rfl⟩ rfl rfl rfl rfl (Nat.le_of_ble_eq_true rfl) dX3_dropPage_66 (fun r_66 σ_66 hc_66 => ?_)
      exact r_return X dX3_dropPage_69
    · exact r_return X dX3_dropPage_69
set_option maxRecDepth 100000 in
set_option maxHeartbeats 4000000 in
theorem c_X3_load (l : Launch) (D : va_G) (cI cZ : ClassId) (α : Nat → Nat) (A : Nat → Prop) (hJ : ∀ σ, va_D A ((kwM cI cZ α) σ)) (x1 x2 : Int32) (σ : KS) : Ct l D (tyA cI cZ) (kwM cI cZ α) A yX3_load cX3_load 3 (some .int) 2 vI [.ref (α 0), .int x1, .int x2] σ (m_X3_load x1 x2 σ) := by
  refine Ct.of (own := RX3) hJ (by decide) rfl (Nat.le_of_ble_eq_true rfl) ?_
  intro p e s m args below meth c X
  refine r_sub (lv' := [(0, .ref (α 0)), (1, .int x1), (2, .int x2)]) [0, 1, 2] rfl ?_
  unfold m_X3_load
  refine r_aload_n X (j := 0) dX3_load_0 rfl rfl ?_
  refine r_iload_n X (j := 1) dX3_load_1 rfl rfl ?_
  refine r_iload_n X (j := 2) dX3_load_2 rfl rfl ?_
  refine r_callVi X (q0 := 0) (ci := 3) (n := 2) (As := [.int x1, .int x2]) (st := []) (c_X3_has l D cI cZ α A hJ x1 x2 σ) ml_X3_118 im_X3_has se_X3_has ii_X3 co_X3_has (by decide +kernel) ⟨Nat.le_of_ble_eq_true rfl, Nat.le_of_ble_eq_true rfl⟩ rfl rfl rfl rfl (Nat.le_of_ble_eq_true rfl) dX3_load_3 (fun r_3 σ_3 hc_3 => ?_)
  refine r_if_eq X (tgt := 40) dX3_load_6 (by decide) (fun _ => ?_) (fun _ => ?_)
  · refine r_iconst X (v := 0) dX3_load_40 (by decide) ?_
    exact r_ireturn X dX3_load_41
  · refine r_aload_n X (j := 0) dX3_load_9 rfl rfl ?_
    refine r_get X (ci := 3) (q0 := 0) (v := .ref (α 4)) inX3 rfl rfl 3 (by decide) rfl fl_X3_20 dX3_load_10 ?_
    refine r_bipush X (v := 64) dX3_load_13 (by decide) ?_
    refine r_aload_n X (j := 0) dX3_load_15 rfl rfl ?_
    refine r_get X (ci := 3) (q0 := 0) (v := .ref (α 11)) inX3 rfl rfl 10 (by decide) rfl fl_X3_41 dX3_load_16 ?_
    refine r_sipush X (v := 256) dX3_load_19 (by decide) ?_
    refine r_iload_n X (j := 1) dX3_load_22 rfl rfl ?_
    refine r_imul X dX3_load_23 ?_
    refine r_iload_n X (j := 2) dX3_load_24 rfl rfl ?_
    refine r_bipush X (v := 64) dX3_load_25 (by decide) ?_
    refine r_idiv X dX3_load_27 (by decide) ?_
    refine r_iadd X dX3_load_28 ?_
    refine r_iald X (q0 := 11) (t0 := 0) (kk := 11) rfl rfl dX3_load_29 ?_
    refine r_imul X dX3_load_30 ?_
    refine r_iload_n X (j := 2) dX3_load_31 rfl rfl ?_
    refine r_bipush X (v := 64) dX3_load_32 (by decide) ?_
    refine r_irem X dX3_load_34 (by decide) ?_
    refine r_iadd X dX3_load_35 ?_
    refine r_iald X (q0 := 4) (t0 := 0) (kk := 4) rfl rfl dX3_load_36 ?_
    refine r_goto X (tgt := 41) dX3_load_37 (by decide) ?_
    exact r_ireturn X dX3_load_41
set_option maxRecDepth 100000 in
set_option maxHeartbeats 4000000 in
theorem cl_X3_store_78 (l : Launch) (D : va_G) (cI cZ : ClassId) (α : Nat → Nat) (A : Nat → Prop) (hJ : ∀ σ, va_D A ((kwM cI cZ α) σ)) {p : Program} {e : Env} {s : State} {m : MethodId} {args : Array Value} {below : List Frame} {meth : Method} {c : Code} (X : CX p s m args meth c cX3_store 8 RX3 D (tyA cI cZ) (kwM cI cZ α) A (some .int)) : ∀ (n : Nat) (x1 : Int32) (x2 : Int32) (x3 : Int32) (x4 : Int32) (x5 : Int32) (x6 : Int32) (x7 : Int32) (σ : KS), Cr p l e (rmd 2) s m args below meth c 8 D (kwM cI cZ α) A vI 78 [(0, .ref (α 0)), (1, .int x1), (2, .int x2), (3, .int x3), (4, .int x4), (5, .int x5), (6, .int x6), (7, .int x7)] [] σ (f_X3_store_78 n x1 x2 x3 x4 x5 x6 x7 σ) := by
  intro n
  induction n with
  | zero => intros; exact r_none
  | succ n ih =>
    intro x1 x2 x3 x4 x5 x6 x7 σ
    rw [f_X3_store_78]
    refine r_iload X (j := 7) dX3_store_78 rfl ?_
    refine r_bipush X (v := 64) dX3_store_80 (by decide) ?_
    refine r_icmp_ge X (tgt := 117) dX3_store_82 (by decide) (fun _ => ?_) (fun _ => ?_)
    · refine r_aload_n X (j := 0) dX3_store_117 rfl rfl ?_
      refine r_dup X dX3_store_118 rfl ?_
      refine r_get X (ci := 3) (q0 := 0) (v := .int (gv σ 1)) inX3 rfl rfl 14 (by decide) rfl fl_X3_122 dX3_store_119 ?_
      refine r_iconst X (v := 1) dX3_store_122 (by decide) ?_
      refine r_iadd X dX3_store_123 ?_
      refine r_put X (ci := 3) (q0 := 0) (j := 1) inX3 rfl tyX3_ok nmX3 rfl 14 (by decide) rfl fl_X3_122 rfl (by decide +kernel) (Nat.le_of_ble_eq_true rfl) dX3_store_124 ?_
      refine r_aload_n X (j := 0) dX3_store_127 rfl rfl ?_
      refine r_get X (ci := 3) (q0 := 0) (v := .ref (α 11)) inX3 rfl rfl 10 (by decide) rfl fl_X3_41 dX3_store_128 ?_
      refine r_iload X (j := 4) dX3_store_131 rfl ?_
      refine r_iload X (j := 6) dX3_store_133 rfl ?_
      refine r_iast X (q0 := 11) (t0 := 0) (kk := 11) rfl (fun _ => rfl) rfl dX3_store_135 ?_
      refine r_iload X (j := 6) dX3_store_136 rfl ?_
      refine r_istore X (lv' := [(5, .int x6), (0, .ref (α 0)), (1, .int x1), (2, .int x2), (3, .int x3), (4, .int x4), (6, .int x6), (7, .int x7)]) dX3_store_138 (by decide) rfl ?_
      refine r_aload_n X (j := 1) dX3_store_140 rfl rfl ?_
      refine r_get X (ci := 3) (q0 := 0) (v := .ref (α 4)) inX3 rfl rfl 3 (by decide) rfl fl_X3_20 dX3_store_141 ?_
      refine r_bipush X (v := 64) dX3_store_144 (by decide) ?_
      refine r_iload X (j := 0) dX3_store_146 rfl ?_
      refine r_imul X dX3_store_148 ?_
      refine r_iload_n X (j := 3) dX3_store_149 rfl rfl ?_
      refine r_bipush X (v := 64) dX3_store_150 (by decide) ?_
      refine r_irem X dX3_store_152 (by decide) ?_
      refine r_iadd X dX3_store_153 ?_
      refine r_iload_n X (j := 4) dX3_store_154 rfl rfl ?_
      refine r_iast X (q0 := 4) (t0 := 0) (kk := 4) rfl (fun _ => rfl) rfl dX3_store_155 ?_
      refine r_iconst X (v := 0) dX3_store_156 (by decide) ?_
      exact r_ireturn X dX3_store_157
    · refine r_aload_n X (j := 0) dX3_store_85 rfl rfl ?_
      refine r_get X (ci := 3) (q0 := 0) (v := .ref (α 4)) inX3 rfl rfl 3 (by decide) rfl fl_X3_20 dX3_store_86 ?_
      refine r_bipush X (v := 64) dX3_store_89 (by decide) ?_
      refine r_iload X (j := 6) dX3_store_91 rfl ?_
      refine r_imul X dX3_store_93 ?_
      refine r_iload X (j := 7) dX3_store_94 rfl ?_
      refine r_iadd X dX3_store_96 ?_
      refine r_aload_n X (j := 0) dX3_store_97 rfl rfl ?_
      refine r_get X (ci := 3) (q0 := 0) (v := .ref (α 4)) inX3 rfl rfl 3 (by decide) rfl fl_X3_20 dX3_store_98 ?_
      refine r_bipush X (v := 64) dX3_store_101 (by decide) ?_
      refine r_iload X (j := 5) dX3_store_103 rfl ?_
      refine r_imul X dX3_store_105 ?_
      refine r_iload X (j := 7) dX3_store_106 rfl ?_
      refine r_iadd X dX3_store_108 ?_
      refine r_iald X (q0 := 4) (t0 := 0) (kk := 4) rfl rfl dX3_store_109 ?_
      refine r_iast X (q0 := 4) (t0 := 0) (kk := 4) rfl (fun _ => rfl) rfl dX3_store_110 ?_
      refine r_iinc X (j := 7) (v := (x7 + 1)) (lv' := [(7, .int (x7 + 1)), (0, .ref (α 0)), (1, .int x1), (2, .int x2), (3, .int x3), (4, .int x4), (5, .int x5), (6, .int x6)]) dX3_store_111 rfl rfl (by decide) rfl ?_
      refine r_goto X (tgt := 78) dX3_store_114 (by decide) ?_
      refine r_sub (lv' := [(0, .ref (α 0)), (1, .int x1), (2, .int x2), (3, .int x3), (4, .int x4), (5, .int x5), (6, .int x6), (7, .int (x7 + 1))]) [1, 2, 3, 4, 5, 6, 7, 0] rfl ?_
      exact ih x1 x2 x3 x4 x5 x6 (x7 + 1) (wr σ 4 ((64 * x6) + x7) (rd σ 4 ((64 * x5) + x7)))
set_option maxRecDepth 100000 in
set_option maxHeartbeats 4000000 in
theorem c_X3_store (l : Launch) (D : va_G) (cI cZ : ClassId) (α : Nat → Nat) (A : Nat → Prop) (hJ : ∀ σ, va_D A ((kwM cI cZ α) σ)) (x1 x2 x3 : Int32) (σ : KS) : Ct l D (tyA cI cZ) (kwM cI cZ α) A yX3_store cX3_store 8 (some .int) 2 vI [.ref (α 0), .int x1, .int x2, .int x3] σ (m_X3_store x1 x2 x3 σ) := by
  refine Ct.of (own := RX3) hJ (by decide) rfl (Nat.le_of_ble_eq_true rfl) ?_
  intro p e s m args below meth c X
  refine r_sub (lv' := [(0, .ref (α 0)), (1, .int x1), (2, .int x2), (3, .int x3)]) [0, 1, 2, 3] rfl ?_
  unfold m_X3_store
  refine r_aload_n X (j := 0) dX3_store_0 rfl rfl ?_
  refine r_iload_n X (j := 1) dX3_store_1 rfl rfl ?_
  refine r_callVi X (q0 := 0) (ci := 3) (n := 1) (As := [.int x1]) (st := []) (c_X3_isLive l D cI cZ α A hJ x1 σ) ml_X3_100 im_X3_isLive se_X3_isLive ii_X3 co_X3_isLive (by decide +kernel) ⟨Nat.le_of_ble_eq_true rfl, Nat.le_of_ble_eq_true rfl⟩ rfl rfl rfl rfl (Nat.le_of_ble_eq_true rfl) dX3_store_2 (fun r_2 σ_2 hc_2 => ?_)
  refine r_if_ne X (tgt := 11) dX3_store_5 (by decide) (fun _ => ?_) (fun _ => ?_)
  · refine r_bipush X (v := (-2)) dX3_store_8 (by decide) ?_
    exact r_ireturn X dX3_store_10
  · refine r_aload_n X (j := 0) dX3_store_11 rfl rfl ?_
    refine r_iload_n X (j := 1) dX3_store_12 rfl rfl ?_
    refine r_iload_n X (j := 2) dX3_store_13 rfl rfl ?_
    refine r_callVi X (q0 := 0) (ci := 3) (n := 2) (As := [.int x1, .int x2]) (st := []) (c_X3_has l D cI cZ α A hJ x1 x2 σ_2) ml_X3_118 im_X3_has se_X3_has ii_X3 co_X3_has (by decide +kernel) ⟨Nat.le_of_ble_eq_true rfl, Nat.le_of_ble_eq_true rfl⟩ rfl rfl rfl rfl (Nat.le_of_ble_eq_true rfl) dX3_store_14 (fun r_14 σ_14 hc_14 => ?_)
    refine r_if_ne X (tgt := 23) dX3_store_17 (by decide) (fun _ => ?_) (fun _ => ?_)
    · refine r_bipush X (v := (-5)) dX3_store_20 (by decide) ?_
      exact r_ireturn X dX3_store_22
    · refine r_sipush X (v := 256) dX3_store_23 (by decide) ?_
      refine r_iload_n X (j := 1) dX3_store_26 rfl rfl ?_
      refine r_imul X dX3_store_27 ?_
      refine r_iload_n X (j := 2) dX3_store_28 rfl rfl ?_
      refine r_bipush X (v := 64) dX3_store_29 (by decide) ?_
      refine r_idiv X dX3_store_31 (by decide) ?_
      refine r_iadd X dX3_store_32 ?_
      refine r_istore X (lv' := [(4, .int ((256 * x1) + (x2 / 64))), (0, .ref (α 0)), (1, .int x1), (2, .int x2), (3, .int x3)]) dX3_store_33 (by decide) rfl ?_
      refine r_aload_n X (j := 1) dX3_store_35 rfl rfl ?_
      refine r_get X (ci := 3) (q0 := 0) (v := .ref (α 11)) inX3 rfl rfl 10 (by decide) rfl fl_X3_41 dX3_store_36 ?_
      refine r_iload X (j := 0) dX3_store_39 rfl ?_
      refine r_iald X (q0 := 11) (t0 := 0) (kk := 11) rfl rfl dX3_store_41 ?_
      refine r_istore X (lv' := [(5, .int (rd σ_14 11 ((256 * x1) + (x2 / 64)))), (4, .int ((256 * x1) + (x2 / 64))), (0, .ref (α 0)), (1, .int x1), (2, .int x2), (3, .int x3)]) dX3_store_42 (by decide) rfl ?_
      refine r_aload_n X (j := 2) dX3_store_44 rfl rfl ?_
      refine r_iload X (j := 0) dX3_store_45 rfl ?_
      refine r_callVi X (q0 := 0) (ci := 3) (n := 1) (As := [.int (rd σ_14 11 ((256 * x1) + (x2 / 64)))]) (st := []) (c_X3_users l D cI cZ α A hJ (rd σ_14 11 ((256 * x1) + (x2 / 64))) σ_14) ml_X3_104 im_X3_users se_X3_users ii_X3 co_X3_users (by decide +kernel) ⟨Nat.le_of_ble_eq_true rfl, Nat.le_of_ble_eq_true rfl⟩ rfl rfl rfl rfl (Nat.le_of_ble_eq_true rfl) dX3_store_47 (fun r_47 σ_47 hc_47 => ?_)
      refine r_iconst X (v := 1) dX3_store_50 (by decide) ?_
      refine r_icmp_le X (tgt := 140) dX3_store_51 (by decide) (fun _ => ?_) (fun _ => ?_)
      · refine r_aload_n X (j := 2) dX3_store_140 rfl rfl ?_
        refine r_get X (ci := 3) (q0 := 0) (v := .ref (α 4)) inX3 rfl rfl 3 (by decide) rfl fl_X3_20 dX3_store_141 ?_
        refine r_bipush X (v := 64) dX3_store_144 (by decide) ?_
        refine r_iload X (j := 0) dX3_store_146 rfl ?_
        refine r_imul X dX3_store_148 ?_
        refine r_iload_n X (j := 4) dX3_store_149 rfl rfl ?_
        refine r_bipush X (v := 64) dX3_store_150 (by decide) ?_
        refine r_irem X dX3_store_152 (by decide) ?_
        refine r_iadd X dX3_store_153 ?_
        refine r_iload_n X (j := 5) dX3_store_154 rfl rfl ?_
        refine r_iast X (q0 := 4) (t0 := 0) (kk := 4) rfl (fun _ => rfl) rfl dX3_store_155 ?_
        refine r_iconst X (v := 0) dX3_store_156 (by decide) ?_
        exact r_ireturn X dX3_store_157
      · refine r_aload_n X (j := 2) dX3_store_54 rfl rfl ?_
        refine r_callVv X (q0 := 0) (ci := 3) (n := 0) (As := []) (st := []) (c_X3_layAside l D cI cZ α A hJ σ_47) ml_X3_87 im_X3_layAside se_X3_layAside ii_X3 co_X3_layAside (by decide +kernel) ⟨Nat.le_of_ble_eq_true rfl, Nat.le_of_ble_eq_true rfl⟩ rfl rfl rfl rfl (Nat.le_of_ble_eq_true rfl) dX3_store_55 (fun r_55 σ_55 hc_55 => ?_)
        refine r_aload_n X (j := 2) dX3_store_58 rfl rfl ?_
        refine r_iconst X (v := 3) dX3_store_59 (by decide) ?_
        refine r_callVi X (q0 := 0) (ci := 3) (n := 1) (As := [.int 3]) (st := []) (c_X3_takeFrame l D cI cZ α A hJ 3 σ_55) ml_X3_70 im_X3_takeFrame se_X3_takeFrame ii_X3 co_X3_takeFrame (by decide +kernel) ⟨Nat.le_of_ble_eq_true rfl, Nat.le_of_ble_eq_true rfl⟩ rfl rfl rfl rfl (Nat.le_of_ble_eq_true rfl) dX3_store_60 (fun r_60 σ_60 hc_60 => ?_)
        refine r_istore X (lv' := [(6, .int r_60), (5, .int (rd σ_14 11 ((256 * x1) + (x2 / 64)))), (4, .int ((256 * x1) + (x2 / 64))), (0, .ref (α 0)), (1, .int x1), (2, .int x2), (3, .int x3)]) dX3_store_63 (by decide) rfl ?_
        refine r_iload X (j := 0) dX3_store_65 rfl ?_
        refine r_if_ge X (tgt := 75) dX3_store_67 (by decide) (fun _ => ?_) (fun _ => ?_)
        · refine r_iconst X (v := 0) dX3_store_75 (by decide) ?_
          refine r_istore X (lv' := [(7, .int 0), (6, .int r_60), (5, .int (rd σ_14 11 ((256 * x1) + (x2 / 64)))), (4, .int ((256 * x1) + (x2 / 64))), (0, .ref (α 0)), (1, .int x1), (2, .int x2), (3, .int x3)]) dX3_store_76 (by decide) rfl ?_
          refine r_sub (lv' := [(0, .ref (α 0)), (1, .int x1), (2, .int x2), (3, .int x3), (4, .int ((256 * x1) + (x2 / 64))), (5, .int (rd σ_14 11 ((256 * x1) + (x2 / 64)))), (6, .int r_60), (7, .int 0)]) [4, 5, 6, 7, 3, 2, 1, 0] rfl ?_
          exact cl_X3_store_78 l D cI cZ α A hJ X FU x1 x2 x3 ((256 * x1) + (x2 / 64)) (rd σ_14 11 ((256 * x1) + (x2 / 64))) r_60 0 σ_60
        · refine r_aload_n X (j := 3) dX3_store_70 rfl rfl ?_
          refine r_callVi X (q0 := 0) (ci := 3) (n := 0) (As := []) (st := []) (c_X3_fail l D cI cZ α A hJ σ_60) ml_X3_93 im_X3_fail se_X3_fail ii_X3 co_X3_fail (by decide +kernel) ⟨Nat.le_of_ble_eq_true rfl, Nat.le_of_ble_eq_true rfl⟩ rfl rfl rfl rfl (Nat.le_of_ble_eq_true rfl) dX3_store_71 (fun r_71 σ_71 hc_71 => ?_)
          exact r_ireturn X dX3_store_74
set_option maxRecDepth 100000 in
set_option maxHeartbeats 4000000 in
theorem cl_X3_takeSmall_4 (l : Launch) (D : va_G) (cI cZ : ClassId) (α : Nat → Nat) (A : Nat → Prop) (hJ : ∀ σ, va_D A ((kwM cI cZ α) σ)) {p : Program} {e : Env} {s : State} {m : MethodId} {args : Array Value} {below : List Frame} {meth : Method} {c : Code} (X : CX p s m args meth c cX3_takeSmall 4 RX3 D (tyA cI cZ) (kwM cI cZ α) A (some .int)) : ∀ (n : Nat) (x1 : Int32) (x2 : Int32) (x3 : Int32) (σ : KS), Cr p l e (rmd 2) s m args below meth c 4 D (kwM cI cZ α) A vI 4 [(0, .ref (α 0)), (1, .int x1), (2, .int x2), (3, .int x3)] [] σ (f_X3_takeSmall_4 n x1 x2 x3 σ) := by
  intro n
  induction n with
  | zero => intros; exact r_none
  | succ n ih =>
    intro x1 x2 x3 σ
    rw [f_X3_takeSmall_4]
    refine r_iload_n X (j := 3) dX3_takeSmall_4 rfl rfl ?_
    refine r_sipush X (v := 128) dX3_takeSmall_5 (by decide) ?_
    refine r_icmp_ge X (tgt := 41) dX3_takeSmall_8 (by decide) (fun _ => ?_) (fun _ => ?_)
    · refine r_iload_n X (j := 2) dX3_takeSmall_41 rfl rfl ?_
      refine r_if_ge X (tgt := 63) dX3_takeSmall_42 (by decide) (fun _ => ?_) (fun _ => ?_)
      · refine r_iload_n X (j := 2) dX3_takeSmall_63 rfl rfl ?_
        refine r_if_lt X (tgt := 74) dX3_takeSmall_64 (by decide) (fun _ => ?_) (fun _ => ?_)
        · refine r_iload_n X (j := 2) dX3_takeSmall_74 rfl rfl ?_
          exact r_ireturn X dX3_takeSmall_75
        · refine r_aload_n X (j := 0) dX3_takeSmall_67 rfl rfl ?_
          refine r_get X (ci := 3) (q0 := 0) (v := .ref (α 3)) inX3 rfl rfl 2 (by decide) rfl fl_X3_17 dX3_takeSmall_68 ?_
          refine r_iload_n X (j := 2) dX3_takeSmall_71 rfl rfl ?_
          refine r_iconst X (v := 1) dX3_takeSmall_72 (by decide) ?_
          refine r_zast X (q0 := 3) (t0 := 1) (kk := 3) rfl (fun _ => rfl) rfl dX3_takeSmall_73 ?_
          refine r_iload_n X (j := 2) dX3_takeSmall_74 rfl rfl ?_
          exact r_ireturn X dX3_takeSmall_75
      · refine r_aload_n X (j := 0) dX3_takeSmall_45 rfl rfl ?_
        refine r_iload_n X (j := 1) dX3_takeSmall_46 rfl rfl ?_
        refine r_callVi X (q0 := 0) (ci := 3) (n := 1) (As := [.int x1]) (st := []) (c_X3_takeFrame l D cI cZ α A hJ x1 σ) ml_X3_70 im_X3_takeFrame se_X3_takeFrame ii_X3 co_X3_takeFrame (by decide +kernel) ⟨Nat.le_of_ble_eq_true rfl, Nat.le_of_ble_eq_true rfl⟩ rfl rfl rfl rfl (Nat.le_of_ble_eq_true rfl) dX3_takeSmall_47 (fun r_47 σ_47 hc_47 => ?_)
        refine r_istore_n X (lv' := [(3, .int r_47), (0, .ref (α 0)), (1, .int x1), (2, .int x2)]) dX3_takeSmall_50 rfl (by decide) rfl ?_
        refine r_iload_n X (j := 0) dX3_takeSmall_51 rfl rfl ?_
        refine r_if_ge X (tgt := 59) dX3_takeSmall_52 (by decide) (fun _ => ?_) (fun _ => ?_)
        · refine r_iconst X (v := 4) dX3_takeSmall_59 (by decide) ?_
          refine r_iload_n X (j := 0) dX3_takeSmall_60 rfl rfl ?_
          refine r_imul X dX3_takeSmall_61 ?_
          refine r_istore_n X (lv' := [(2, .int (4 * r_47)), (3, .int r_47), (0, .ref (α 0)), (1, .int x1)]) dX3_takeSmall_62 rfl (by decide) rfl ?_
          refine r_iload_n X (j := 0) dX3_takeSmall_63 rfl rfl ?_
          refine r_if_lt X (tgt := 74) dX3_takeSmall_64 (by decide) (fun _ => ?_) (fun _ => ?_)
          · refine r_iload_n X (j := 0) dX3_takeSmall_74 rfl rfl ?_
            exact r_ireturn X dX3_takeSmall_75
          · refine r_aload_n X (j := 2) dX3_takeSmall_67 rfl rfl ?_
            refine r_get X (ci := 3) (q0 := 0) (v := .ref (α 3)) inX3 rfl rfl 2 (by decide) rfl fl_X3_17 dX3_takeSmall_68 ?_
            refine r_iload_n X (j := 0) dX3_takeSmall_71 rfl rfl ?_
            refine r_iconst X (v := 1) dX3_takeSmall_72 (by decide) ?_
            refine r_zast X (q0 := 3) (t0 := 1) (kk := 3) rfl (fun _ => rfl) rfl dX3_takeSmall_73 ?_
            refine r_iload_n X (j := 0) dX3_takeSmall_74 rfl rfl ?_
            exact r_ireturn X dX3_takeSmall_75
        · refine r_iconst X (v := (-1)) dX3_takeSmall_55 (by decide) ?_
          refine r_goto X (tgt := 62) dX3_takeSmall_56 (by decide) ?_
          refine r_istore_n X (lv' := [(2, .int (-1)), (3, .int r_47), (0, .ref (α 0)), (1, .int x1)]) dX3_takeSmall_62 rfl (by decide) rfl ?_
          refine r_iload_n X (j := 0) dX3_takeSmall_63 rfl rfl ?_
          refine r_t (by decide) (r_if_lt X (tgt := 74) (k2 := none) dX3_takeSmall_64 (by decide) (fun _ => ?_) (fun _ => r_none))
          refine r_iload_n X (j := 0) dX3_takeSmall_74 rfl rfl ?_
          exact r_ireturn X dX3_takeSmall_75
    · refine r_iload_n X (j := 2) dX3_takeSmall_11 rfl rfl ?_
      refine r_if_ge X (tgt := 41) dX3_takeSmall_12 (by decide) (fun _ => ?_) (fun _ => ?_)
      · refine r_iload_n X (j := 2) dX3_takeSmall_41 rfl rfl ?_
        refine r_if_ge X (tgt := 63) dX3_takeSmall_42 (by decide) (fun _ => ?_) (fun _ => ?_)
        · refine r_iload_n X (j := 2) dX3_takeSmall_63 rfl rfl ?_
          refine r_if_lt X (tgt := 74) dX3_takeSmall_64 (by decide) (fun _ => ?_) (fun _ => ?_)
          · refine r_iload_n X (j := 2) dX3_takeSmall_74 rfl rfl ?_
            exact r_ireturn X dX3_takeSmall_75
          · refine r_aload_n X (j := 0) dX3_takeSmall_67 rfl rfl ?_
            refine r_get X (ci := 3) (q0 := 0) (v := .ref (α 3)) inX3 rfl rfl 2 (by decide) rfl fl_X3_17 dX3_takeSmall_68 ?_
            refine r_iload_n X (j := 2) dX3_takeSmall_71 rfl rfl ?_
            refine r_iconst X (v := 1) dX3_takeSmall_72 (by decide) ?_
            refine r_zast X (q0 := 3) (t0 := 1) (kk := 3) rfl (fun _ => rfl) rfl dX3_takeSmall_73 ?_
            refine r_iload_n X (j := 2) dX3_takeSmall_74 rfl rfl ?_
            exact r_ireturn X dX3_takeSmall_75
        · refine r_aload_n X (j := 0) dX3_takeSmall_45 rfl rfl ?_
          refine r_iload_n X (j := 1) dX3_takeSmall_46 rfl rfl ?_
          refine r_callVi X (q0 := 0) (ci := 3) (n := 1) (As := [.int x1]) (st := []) (c_X3_takeFrame l D cI cZ α A hJ x1 σ) ml_X3_70 im_X3_takeFrame se_X3_takeFrame ii_X3 co_X3_takeFrame (by decide +kernel) ⟨Nat.le_of_ble_eq_true rfl, Nat.le_of_ble_eq_true rfl⟩ rfl rfl rfl rfl (Nat.le_of_ble_eq_true rfl) dX3_takeSmall_47 (fun r_47 σ_47 hc_47 => ?_)
          refine r_istore_n X (lv' := [(3, .int r_47), (0, .ref (α 0)), (1, .int x1), (2, .int x2)]) dX3_takeSmall_50 rfl (by decide) rfl ?_
          refine r_iload_n X (j := 0) dX3_takeSmall_51 rfl rfl ?_
          refine r_if_ge X (tgt := 59) dX3_takeSmall_52 (by decide) (fun _ => ?_) (fun _ => ?_)
          · refine r_iconst X (v := 4) dX3_takeSmall_59 (by decide) ?_
            refine r_iload_n X (j := 0) dX3_takeSmall_60 rfl rfl ?_
            refine r_imul X dX3_takeSmall_61 ?_
            refine r_istore_n X (lv' := [(2, .int (4 * r_47)), (3, .int r_47), (0, .ref (α 0)), (1, .int x1)]) dX3_takeSmall_62 rfl (by decide) rfl ?_
            refine r_iload_n X (j := 0) dX3_takeSmall_63 rfl rfl ?_
            refine r_if_lt X (tgt := 74) dX3_takeSmall_64 (by decide) (fun _ => ?_) (fun _ => ?_)
            · refine r_iload_n X (j := 0) dX3_takeSmall_74 rfl rfl ?_
              exact r_ireturn X dX3_takeSmall_75
            · refine r_aload_n X (j := 2) dX3_takeSmall_67 rfl rfl ?_
              refine r_get X (ci := 3) (q0 := 0) (v := .ref (α 3)) inX3 rfl rfl 2 (by decide) rfl fl_X3_17 dX3_takeSmall_68 ?_
              refine r_iload_n X (j := 0) dX3_takeSmall_71 rfl rfl ?_
              refine r_iconst X (v := 1) dX3_takeSmall_72 (by decide) ?_
              refine r_zast X (q0 := 3) (t0 := 1) (kk := 3) rfl (fun _ => rfl) rfl dX3_takeSmall_73 ?_
              refine r_iload_n X (j := 0) dX3_takeSmall_74 rfl rfl ?_
              exact r_ireturn X dX3_takeSmall_75
          · refine r_iconst X (v := (-1)) dX3_takeSmall_55 (by decide) ?_
            refine r_goto X (tgt := 62) dX3_takeSmall_56 (by decide) ?_
            refine r_istore_n X (lv' := [(2, .int (-1)), (3, .int r_47), (0, .ref (α 0)), (1, .int x1)]) dX3_takeSmall_62 rfl (by decide) rfl ?_
            refine r_iload_n X (j := 0) dX3_takeSmall_63 rfl rfl ?_
            refine r_t (by decide) (r_if_lt X (tgt := 74) (k2 := none) dX3_takeSmall_64 (by decide) (fun _ => ?_) (fun _ => r_none))
            refine r_iload_n X (j := 0) dX3_takeSmall_74 rfl rfl ?_
            exact r_ireturn X dX3_takeSmall_75
      · refine r_aload_n X (j := 0) dX3_takeSmall_15 rfl rfl ?_
        refine r_get X (ci := 3) (q0 := 0) (v := .ref (α 2)) inX3 rfl rfl 1 (by decide) rfl fl_X3_13 dX3_takeSmall_16 ?_
        refine r_iload_n X (j := 3) dX3_takeSmall_19 rfl rfl ?_
        refine r_iald X (q0 := 2) (t0 := 0) (kk := 2) rfl rfl dX3_takeSmall_20 ?_
        refine r_iload_n X (j := 1) dX3_takeSmall_21 rfl rfl ?_
        refine r_icmp_ne X (tgt := 33) dX3_takeSmall_22 (by decide) (fun _ => ?_) (fun _ => ?_)
        · refine r_aload_n X (j := 0) dX3_takeSmall_25 rfl rfl ?_
          refine r_iload_n X (j := 3) dX3_takeSmall_26 rfl rfl ?_
          refine r_callVi X (q0 := 0) (ci := 3) (n := 1) (As := [.int x3]) (st := []) (c_X3_freePlace l D cI cZ α A hJ x3 σ) ml_X3_67 im_X3_freePlace se_X3_freePlace ii_X3 co_X3_freePlace (by decide +kernel) ⟨Nat.le_of_ble_eq_true rfl, Nat.le_of_ble_eq_true rfl⟩ rfl rfl rfl rfl (Nat.le_of_ble_eq_true rfl) dX3_takeSmall_27 (fun r_27 σ_27 hc_27 => ?_)
          refine r_goto X (tgt := 34) dX3_takeSmall_30 (by decide) ?_
          refine r_istore_n X (lv' := [(2, .int r_27), (0, .ref (α 0)), (1, .int x1), (3, .int x3)]) dX3_takeSmall_34 rfl (by decide) rfl ?_
          refine r_iinc X (j := 3) (v := (x3 + 1)) (lv' := [(3, .int (x3 + 1)), (2, .int r_27), (0, .ref (α 0)), (1, .int x1)]) dX3_takeSmall_35 rfl rfl (by decide) rfl ?_
          refine r_goto X (tgt := 4) dX3_takeSmall_38 (by decide) ?_
          refine r_sub (lv' := [(0, .ref (α 0)), (1, .int x1), (2, .int r_27), (3, .int (x3 + 1))]) [2, 3, 1, 0] rfl ?_
          exact ih x1 r_27 (x3 + 1) σ_27
        · refine r_iconst X (v := (-1)) dX3_takeSmall_33 (by decide) ?_
          refine r_istore_n X (lv' := [(2, .int (-1)), (0, .ref (α 0)), (1, .int x1), (3, .int x3)]) dX3_takeSmall_34 rfl (by decide) rfl ?_
          refine r_iinc X (j := 3) (v := (x3 + 1)) (lv' := [(3, .int (x3 + 1)), (2, .int (-1)), (0, .ref (α 0)), (1, .int x1)]) dX3_takeSmall_35 rfl rfl (by decide) rfl ?_
          refine r_goto X (tgt := 4) dX3_takeSmall_38 (by decide) ?_
          refine r_sub (lv' := [(0, .ref (α 0)), (1, .int x1), (2, .int (-1)), (3, .int (x3 + 1))]) [2, 3, 1, 0] rfl ?_
          exact ih x1 (-1) (x3 + 1) σ
set_option maxRecDepth 100000 in
set_option maxHeartbeats 4000000 in
theorem c_X3_takeSmall (l : Launch) (D : va_G) (cI cZ : ClassId) (α : Nat → Nat) (A : Nat → Prop) (hJ : ∀ σ, va_D A ((kwM cI cZ α) σ)) (x1 : Int32) (σ : KS) : Ct l D (tyA cI cZ) (kwM cI cZ α) A yX3_takeSmall cX3_takeSmall 4 (some .int) 2 vI [.ref (α 0), .int x1] σ (m_X3_takeSmall x1 σ) := by
  refine Ct.of (own := RX3) hJ (by decide) rfl (Nat.le_of_ble_eq_true rfl) ?_
  intro p e s m args below meth c X
  refine r_sub (lv' := [(0, .ref (α 0)), (1, .int x1)]) [0, 1] rfl ?_
  unfold m_X3_takeSmall
  refine r_iconst X (v := (-1)) dX3_takeSmall_0 (by decide) ?_
  refine r_istore_n X (lv' := [(2, .int (-1)), (0, .ref (α 0)), (1, .int x1)]) dX3_takeSmall_1 rfl (by decide) rfl ?_
  refine r_iconst X (v := 0) dX3_takeSmall_2 (by decide) ?_
  refine r_istore_n X (lv' := [(3, .int 0), (2, .int (-1)), (0, .ref (α 0)), (1, .int x1)]) dX3_takeSmall_3 rfl (by decide) rfl ?_
  refine r_sub (lv' := [(0, .ref (α 0)), (1, .int x1), (2, .int (-1)), (3, .int 0)]) [2, 3, 1, 0] rfl ?_
  exact cl_X3_takeSmall_4 l D cI cZ α A hJ X FU x1 (-1) 0 σ
set_option maxRecDepth 100000 in
set_option maxHeartbeats 4000000 in
theorem c_X3_vanish (l : Launch) (D : va_G) (cI cZ : ClassId) (α : Nat → Nat) (A : Nat → Prop) (hJ : ∀ σ, va_D A ((kwM cI cZ α) σ)) (x1 : Int32) (σ : KS) : Ct l D (tyA cI cZ) (kwM cI cZ α) A yX3_vanish cX3_vanish 2 none 2 vV [.ref (α 0), .int x1] σ (m_X3_vanish x1 σ) := by
  refine Ct.of (own := RX3) hJ (by decide) rfl (Nat.le_of_ble_eq_true rfl) ?_
  intro p e s m args below meth c X
  refine r_sub (lv' := [(0, .ref (α 0)), (1, .int x1)]) [0, 1] rfl ?_
  unfold m_X3_vanish
  refine r_aload_n X (j := 0) dX3_vanish_0 rfl rfl ?_
  refine r_get X (ci := 3) (q0 := 0) (v := .ref (α 6)) inX3 rfl rfl 5 (by decide) rfl fl_X3_26 dX3_vanish_1 ?_
  refine r_iload_n X (j := 1) dX3_vanish_4 rfl rfl ?_
  refine r_iconst X (v := 0) dX3_vanish_5 (by decide) ?_
  refine r_iast X (q0 := 6) (t0 := 0) (kk := 6) rfl (fun _ => rfl) rfl dX3_vanish_6 ?_
  refine r_aload_n X (j := 0) dX3_vanish_7 rfl rfl ?_
  refine r_aload_n X (j := 0) dX3_vanish_8 rfl rfl ?_
  refine r_get X (ci := 3) (q0 := 0) (v := .ref (α 10)) inX3 rfl rfl 9 (by decide) rfl fl_X3_38 dX3_vanish_9 ?_
  refine r_iload_n X (j := 1) dX3_vanish_12 rfl rfl ?_
  refine r_iald X (q0 := 10) (t0 := 0) (kk := 10) rfl rfl dX3_vanish_13 ?_
  refine r_callVv X (q0 := 0) (ci := 3) (n := 1) (As := [.int (rd (wr σ 6 x1 0) 10 x1)]) (st := []) (c_X3_giveSmall l D cI cZ α A hJ (rd (wr σ 6 x1 0) 10 x1) (wr σ 6 x1 0)) ml_X3_107 im_X3_giveSmall se_X3_giveSmall ii_X3 co_X3_giveSmall (by decide +kernel) ⟨Nat.le_of_ble_eq_true rfl, Nat.le_of_ble_eq_true rfl⟩ rfl rfl rfl rfl (Nat.le_of_ble_eq_true rfl) dX3_vanish_14 (fun r_14 σ_14 hc_14 => ?_)
  exact r_return X dX3_vanish_17
end
section
set_option maxRecDepth 100000 in
set_option maxHeartbeats 4000000 in
theorem cl_X3_exit_81 (l : Launch) (D : va_G) (cI cZ : ClassId) (α : Nat → Nat) (A : Nat → Prop) (hJ : ∀ σ, va_D A ((kwM cI cZ α) σ)) {p : Program} {e : Env} {s : State} {m : MethodId} {args : Array Value} {below : List Frame} {meth : Method} {c : Code} (X : CX p s m args meth c cX3_exit 5 RX3 D (tyA cI cZ) (kwM cI cZ α) A (some .int)) : ∀ (n : Nat) (x1 : Int32) (x2 : Int32) (x3 : Int32) (x4 : Int32) (σ : KS), Cr p l e (rmd 3) s m args below meth c 5 D (kwM cI cZ α) A vI 81 [(0, .ref (α 0)), (1, .int x1), (2, .int x2), (3, .int x3), (4, .int x4)] [] σ (f_X3_exit_81 n x1 x2 x3 x4 σ) := by
  intro n
  induction n with
  | zero => intros; exact r_none
  | succ n ih =>
    intro x1 x2 x3 x4 σ
    rw [f_X3_exit_81]
    refine r_iload X (j := 4) dX3_exit_81 rfl ?_
    refine r_bipush X (v := 16) dX3_exit_83 (by decide) ?_
    refine r_icmp_ge X (tgt := 140) dX3_exit_85 (by decide) (fun _ => ?_) (fun _ => ?_)
    · refine r_aload_n X (j := 0) dX3_exit_140 rfl rfl ?_
      refine r_get X (ci := 3) (q0 := 0) (v := .ref (α 8)) inX3 rfl rfl 7 (by decide) rfl fl_X3_32 dX3_exit_141 ?_
      refine r_iload_n X (j := 1) dX3_exit_144 rfl rfl ?_
      refine r_iald X (q0 := 8) (t0 := 0) (kk := 8) rfl rfl dX3_exit_145 ?_
      refine r_iconst X (v := (-1)) dX3_exit_146 (by decide) ?_
      refine r_icmp_ne X (tgt := 158) dX3_exit_147 (by decide) (fun _ => ?_) (fun _ => ?_)
      · refine r_aload_n X (j := 0) dX3_exit_150 rfl rfl ?_
        refine r_iload_n X (j := 1) dX3_exit_151 rfl rfl ?_
        refine r_callVv X (q0 := 0) (ci := 3) (n := 1) (As := [.int x1]) (st := []) (c_X3_vanish l D cI cZ α A hJ x1 σ) ml_X3_128 im_X3_vanish se_X3_vanish ii_X3 co_X3_vanish (by decide +kernel) ⟨Nat.le_of_ble_eq_true rfl, Nat.le_of_ble_eq_true rfl⟩ rfl rfl rfl rfl (Nat.le_of_ble_eq_true rfl) dX3_exit_152 (fun r_152 σ_152 hc_152 => ?_)
        refine r_goto X (tgt := 172) dX3_exit_155 (by decide) ?_
        refine r_iconst X (v := 0) dX3_exit_172 (by decide) ?_
        exact r_ireturn X dX3_exit_173
      · refine r_aload_n X (j := 0) dX3_exit_158 rfl rfl ?_
        refine r_get X (ci := 3) (q0 := 0) (v := .ref (α 6)) inX3 rfl rfl 5 (by decide) rfl fl_X3_26 dX3_exit_159 ?_
        refine r_iload_n X (j := 1) dX3_exit_162 rfl rfl ?_
        refine r_iconst X (v := 2) dX3_exit_163 (by decide) ?_
        refine r_iast X (q0 := 6) (t0 := 0) (kk := 6) rfl (fun _ => rfl) rfl dX3_exit_164 ?_
        refine r_aload_n X (j := 0) dX3_exit_165 rfl rfl ?_
        refine r_get X (ci := 3) (q0 := 0) (v := .ref (α 9)) inX3 rfl rfl 8 (by decide) rfl fl_X3_35 dX3_exit_166 ?_
        refine r_iload_n X (j := 1) dX3_exit_169 rfl rfl ?_
        refine r_iload_n X (j := 2) dX3_exit_170 rfl rfl ?_
        refine r_iast X (q0 := 9) (t0 := 0) (kk := 9) rfl (fun _ => rfl) rfl dX3_exit_171 ?_
        refine r_iconst X (v := 0) dX3_exit_172 (by decide) ?_
        exact r_ireturn X dX3_exit_173
    · refine r_aload_n X (j := 0) dX3_exit_88 rfl rfl ?_
      refine r_get X (ci := 3) (q0 := 0) (v := .ref (α 6)) inX3 rfl rfl 5 (by decide) rfl fl_X3_26 dX3_exit_89 ?_
      refine r_iload X (j := 4) dX3_exit_92 rfl ?_
      refine r_iald X (q0 := 6) (t0 := 0) (kk := 6) rfl rfl dX3_exit_94 ?_
      refine r_if_eq X (tgt := 134) dX3_exit_95 (by decide) (fun _ => ?_) (fun _ => ?_)
      · refine r_iinc X (j := 4) (v := (x4 + 1)) (lv' := [(4, .int (x4 + 1)), (0, .ref (α 0)), (1, .int x1), (2, .int x2), (3, .int x3)]) dX3_exit_134 rfl rfl (by decide) rfl ?_
        refine r_goto X (tgt := 81) dX3_exit_137 (by decide) ?_
        refine r_sub (lv' := [(0, .ref (α 0)), (1, .int x1), (2, .int x2), (3, .int x3), (4, .int (x4 + 1))]) [1, 2, 3, 4, 0] rfl ?_
        exact ih x1 x2 x3 (x4 + 1) σ
      · refine r_aload_n X (j := 0) dX3_exit_98 rfl rfl ?_
        refine r_get X (ci := 3) (q0 := 0) (v := .ref (α 8)) inX3 rfl rfl 7 (by decide) rfl fl_X3_32 dX3_exit_99 ?_
        refine r_iload X (j := 4) dX3_exit_102 rfl ?_
        refine r_iald X (q0 := 8) (t0 := 0) (kk := 8) rfl rfl dX3_exit_104 ?_
        refine r_iload_n X (j := 1) dX3_exit_105 rfl rfl ?_
        refine r_icmp_ne X (tgt := 134) dX3_exit_106 (by decide) (fun _ => ?_) (fun _ => ?_)
        · refine r_aload_n X (j := 0) dX3_exit_109 rfl rfl ?_
          refine r_get X (ci := 3) (q0 := 0) (v := .ref (α 6)) inX3 rfl rfl 5 (by decide) rfl fl_X3_26 dX3_exit_110 ?_
          refine r_iload X (j := 4) dX3_exit_113 rfl ?_
          refine r_iald X (q0 := 6) (t0 := 0) (kk := 6) rfl rfl dX3_exit_115 ?_
          refine r_iconst X (v := 2) dX3_exit_116 (by decide) ?_
          refine r_icmp_ne X (tgt := 126) dX3_exit_117 (by decide) (fun _ => ?_) (fun _ => ?_)
          · refine r_aload_n X (j := 0) dX3_exit_120 rfl rfl ?_
            refine r_iload X (j := 4) dX3_exit_121 rfl ?_
            refine r_callVv X (q0 := 0) (ci := 3) (n := 1) (As := [.int x4]) (st := []) (c_X3_vanish l D cI cZ α A hJ x4 σ) ml_X3_128 im_X3_vanish se_X3_vanish ii_X3 co_X3_vanish (by decide +kernel) ⟨Nat.le_of_ble_eq_true rfl, Nat.le_of_ble_eq_true rfl⟩ rfl rfl rfl rfl (Nat.le_of_ble_eq_true rfl) dX3_exit_123 (fun r_123 σ_123 hc_123 => ?_)
            refine r_aload_n X (j := 0) dX3_exit_126 rfl rfl ?_
            refine r_get X (ci := 3) (q0 := 0) (v := .ref (α 8)) inX3 rfl rfl 7 (by decide) rfl fl_X3_32 dX3_exit_127 ?_
            refine r_iload X (j := 4) dX3_exit_130 rfl ?_
            refine r_iconst X (v := (-1)) dX3_exit_132 (by decide) ?_
            refine r_iast X (q0 := 8) (t0 := 0) (kk := 8) rfl (fun _ => rfl) rfl dX3_exit_133 ?_
            refine r_iinc X (j := 4) (v := (x4 + 1)) (lv' := [(4, .int (x4 + 1)), (0, .ref (α 0)), (1, .int x1), (2, .int x2), (3, .int x3)]) dX3_exit_134 rfl rfl (by decide) rfl ?_
            refine r_goto X (tgt := 81) dX3_exit_137 (by decide) ?_
            refine r_sub (lv' := [(0, .ref (α 0)), (1, .int x1), (2, .int x2), (3, .int x3), (4, .int (x4 + 1))]) [1, 2, 3, 4, 0] rfl ?_
            exact ih x1 x2 x3 (x4 + 1) (wr σ_123 8 x4 (-1))
          · refine r_aload_n X (j := 0) dX3_exit_126 rfl rfl ?_
            refine r_get X (ci := 3) (q0 := 0) (v := .ref (α 8)) inX3 rfl rfl 7 (by decide) rfl fl_X3_32 dX3_exit_127 ?_
            refine r_iload X (j := 4) dX3_exit_130 rfl ?_
            refine r_iconst X (v := (-1)) dX3_exit_132 (by decide) ?_
            refine r_iast X (q0 := 8) (t0 := 0) (kk := 8) rfl (fun _ => rfl) rfl dX3_exit_133 ?_
            refine r_iinc X (j := 4) (v := (x4 + 1)) (lv' := [(4, .int (x4 + 1)), (0, .ref (α 0)), (1, .int x1), (2, .int x2), (3, .int x3)]) dX3_exit_134 rfl rfl (by decide) rfl ?_
            refine r_goto X (tgt := 81) dX3_exit_137 (by decide) ?_
            refine r_sub (lv' := [(0, .ref (α 0)), (1, .int x1), (2, .int x2), (3, .int x3), (4, .int (x4 + 1))]) [1, 2, 3, 4, 0] rfl ?_
            exact ih x1 x2 x3 (x4 + 1) (wr σ 8 x4 (-1))
        · refine r_iinc X (j := 4) (v := (x4 + 1)) (lv' := [(4, .int (x4 + 1)), (0, .ref (α 0)), (1, .int x1), (2, .int x2), (3, .int x3)]) dX3_exit_134 rfl rfl (by decide) rfl ?_
          refine r_goto X (tgt := 81) dX3_exit_137 (by decide) ?_
          refine r_sub (lv' := [(0, .ref (α 0)), (1, .int x1), (2, .int x2), (3, .int x3), (4, .int (x4 + 1))]) [1, 2, 3, 4, 0] rfl ?_
          exact ih x1 x2 x3 (x4 + 1) σ
set_option maxRecDepth 100000 in
set_option maxHeartbeats 4000000 in
theorem cl_X3_exit_61 (l : Launch) (D : va_G) (cI cZ : ClassId) (α : Nat → Nat) (A : Nat → Prop) (hJ : ∀ σ, va_D A ((kwM cI cZ α) σ)) {p : Program} {e : Env} {s : State} {m : MethodId} {args : Array Value} {below : List Frame} {meth : Method} {c : Code} (X : CX p s m args meth c cX3_exit 5 RX3 D (tyA cI cZ) (kwM cI cZ α) A (some .int)) : ∀ (n : Nat) (x1 : Int32) (x2 : Int32) (x3 : Int32) (x4 : Int32) (σ : KS), Cr p l e (rmd 3) s m args below meth c 5 D (kwM cI cZ α) A vI 61 [(0, .ref (α 0)), (1, .int x1), (2, .int x2), (3, .int x3), (4, .int x4)] [] σ (f_X3_exit_61 n x1 x2 x3 x4 σ) := by
  intro n
  induction n with
  | zero => intros; exact r_none
  | succ n ih =>
    intro x1 x2 x3 x4 σ
    rw [f_X3_exit_61]
    refine r_aload_n X (j := 0) dX3_exit_61 rfl rfl ?_
    refine r_get X (ci := 3) (q0 := 0) (v := .ref (α 7)) inX3 rfl rfl 6 (by decide) rfl fl_X3_29 dX3_exit_62 ?_
    refine r_iload_n X (j := 1) dX3_exit_65 rfl rfl ?_
    refine r_iald X (q0 := 7) (t0 := 0) (kk := 7) rfl rfl dX3_exit_66 ?_
    refine r_if_le X (tgt := 78) dX3_exit_67 (by decide) (fun _ => ?_) (fun _ => ?_)
    · refine r_iconst X (v := 0) dX3_exit_78 (by decide) ?_
      refine r_istore X (lv' := [(4, .int 0), (0, .ref (α 0)), (1, .int x1), (2, .int x2), (3, .int x3)]) dX3_exit_79 (by decide) rfl ?_
      refine r_sub (lv' := [(0, .ref (α 0)), (1, .int x1), (2, .int x2), (3, .int x3), (4, .int 0)]) [1, 2, 3, 4, 0] rfl ?_
      exact cl_X3_exit_81 l D cI cZ α A hJ X FU x1 x2 x3 0 σ
    · refine r_aload_n X (j := 0) dX3_exit_70 rfl rfl ?_
      refine r_iload_n X (j := 1) dX3_exit_71 rfl rfl ?_
      refine r_callVv X (q0 := 0) (ci := 3) (n := 1) (As := [.int x1]) (st := []) (c_X3_dropPage l D cI cZ α A hJ x1 σ) ml_X3_115 im_X3_dropPage se_X3_dropPage ii_X3 co_X3_dropPage (by decide +kernel) ⟨Nat.le_of_ble_eq_true rfl, Nat.le_of_ble_eq_true rfl⟩ rfl rfl rfl rfl (Nat.le_of_ble_eq_true rfl) dX3_exit_72 (fun r_72 σ_72 hc_72 => ?_)
      refine r_goto X (tgt := 61) dX3_exit_75 (by decide) ?_
      refine r_sub (lv' := [(0, .ref (α 0)), (1, .int x1), (2, .int x2), (3, .int x3), (4, .int x4)]) [0, 1, 2, 3, 4] rfl ?_
      exact ih x1 x2 x3 x4 σ_72
set_option maxRecDepth 100000 in
set_option maxHeartbeats 4000000 in
theorem cl_X3_exit_30 (l : Launch) (D : va_G) (cI cZ : ClassId) (α : Nat → Nat) (A : Nat → Prop) (hJ : ∀ σ, va_D A ((kwM cI cZ α) σ)) {p : Program} {e : Env} {s : State} {m : MethodId} {args : Array Value} {below : List Frame} {meth : Method} {c : Code} (X : CX p s m args meth c cX3_exit 5 RX3 D (tyA cI cZ) (kwM cI cZ α) A (some .int)) : ∀ (n : Nat) (x1 : Int32) (x2 : Int32) (x3 : Int32) (x4 : Int32) (σ : KS), Cr p l e (rmd 3) s m args below meth c 5 D (kwM cI cZ α) A vI 30 [(0, .ref (α 0)), (1, .int x1), (2, .int x2), (3, .int x3), (4, .int x4)] [] σ (f_X3_exit_30 n x1 x2 x3 x4 σ) := by
  intro n
  induction n with
  | zero => intros; exact r_none
  | succ n ih =>
    intro x1 x2 x3 x4 σ
    rw [f_X3_exit_30]
    refine r_iload X (j := 4) dX3_exit_30 rfl ?_
    refine r_aload_n X (j := 0) dX3_exit_32 rfl rfl ?_
    refine r_get X (ci := 3) (q0 := 0) (v := .int (gv σ 0)) inX3 rfl rfl 13 (by decide) rfl fl_X3_80 dX3_exit_33 ?_
    refine r_icmp_ge X (tgt := 61) dX3_exit_36 (by decide) (fun _ => ?_) (fun _ => ?_)
    · refine r_sub (lv' := [(0, .ref (α 0)), (1, .int x1), (2, .int x2), (3, .int x3), (4, .int x4)]) [0, 1, 2, 3, 4] rfl ?_
      exact cl_X3_exit_61 l D cI cZ α A hJ X FU x1 x2 x3 x4 σ
    · refine r_aload_n X (j := 0) dX3_exit_39 rfl rfl ?_
      refine r_get X (ci := 3) (q0 := 0) (v := .ref (α 13)) inX3 rfl rfl 12 (by decide) rfl fl_X3_47 dX3_exit_40 ?_
      refine r_iload X (j := 4) dX3_exit_43 rfl ?_
      refine r_aload_n X (j := 0) dX3_exit_45 rfl rfl ?_
      refine r_get X (ci := 3) (q0 := 0) (v := .ref (α 13)) inX3 rfl rfl 12 (by decide) rfl fl_X3_47 dX3_exit_46 ?_
      refine r_iload X (j := 4) dX3_exit_49 rfl ?_
      refine r_iconst X (v := 1) dX3_exit_51 (by decide) ?_
      refine r_iadd X dX3_exit_52 ?_
      refine r_iald X (q0 := 13) (t0 := 0) (kk := 13) rfl rfl dX3_exit_53 ?_
      refine r_iast X (q0 := 13) (t0 := 0) (kk := 13) rfl (fun _ => rfl) rfl dX3_exit_54 ?_
      refine r_iinc X (j := 4) (v := (x4 + 1)) (lv' := [(4, .int (x4 + 1)), (0, .ref (α 0)), (1, .int x1), (2, .int x2), (3, .int x3)]) dX3_exit_55 rfl rfl (by decide) rfl ?_
      refine r_goto X (tgt := 30) dX3_exit_58 (by decide) ?_
      refine r_sub (lv' := [(0, .ref (α 0)), (1, .int x1), (2, .int x2), (3, .int x3), (4, .int (x4 + 1))]) [1, 2, 3, 4, 0] rfl ?_
      exact ih x1 x2 x3 (x4 + 1) (wr σ 13 x4 (rd σ 13 (x4 + 1)))
set_option maxRecDepth 100000 in
set_option maxHeartbeats 4000000 in
theorem c_X3_exit (l : Launch) (D : va_G) (cI cZ : ClassId) (α : Nat → Nat) (A : Nat → Prop) (hJ : ∀ σ, va_D A ((kwM cI cZ α) σ)) (x1 x2 : Int32) (σ : KS) : Ct l D (tyA cI cZ) (kwM cI cZ α) A yX3_exit cX3_exit 5 (some .int) 3 vI [.ref (α 0), .int x1, .int x2] σ (m_X3_exit x1 x2 σ) := by
  refine Ct.of (own := RX3) hJ (by decide) rfl (Nat.le_of_ble_eq_true rfl) ?_
  intro p e s m args below meth c X
  refine r_sub (lv' := [(0, .ref (α 0)), (1, .int x1), (2, .int x2)]) [0, 1, 2] rfl ?_
  unfold m_X3_exit
  refine r_aload_n X (j := 0) dX3_exit_0 rfl rfl ?_
  refine r_iload_n X (j := 1) dX3_exit_1 rfl rfl ?_
  refine r_callVi X (q0 := 0) (ci := 3) (n := 1) (As := [.int x1]) (st := []) (c_X3_isLive l D cI cZ α A hJ x1 σ) ml_X3_100 im_X3_isLive se_X3_isLive ii_X3 co_X3_isLive (by decide +kernel) ⟨Nat.le_of_ble_eq_true rfl, Nat.le_of_ble_eq_true rfl⟩ rfl rfl rfl rfl (Nat.le_of_ble_eq_true rfl) dX3_exit_2 (fun r_2 σ_2 hc_2 => ?_)
  refine r_if_ne X (tgt := 11) dX3_exit_5 (by decide) (fun _ => ?_) (fun _ => ?_)
  · refine r_bipush X (v := (-2)) dX3_exit_8 (by decide) ?_
    exact r_ireturn X dX3_exit_10
  · refine r_aload_n X (j := 0) dX3_exit_11 rfl rfl ?_
    refine r_iload_n X (j := 1) dX3_exit_12 rfl rfl ?_
    refine r_callVi X (q0 := 0) (ci := 3) (n := 1) (As := [.int x1]) (st := []) (c_X3_placeInRow l D cI cZ α A hJ x1 σ_2) ml_X3_125 im_X3_placeInRow se_X3_placeInRow ii_X3 co_X3_placeInRow (by decide +kernel) ⟨Nat.le_of_ble_eq_true rfl, Nat.le_of_ble_eq_true rfl⟩ rfl rfl rfl rfl (Nat.le_of_ble_eq_true rfl) dX3_exit_13 (fun r_13 σ_13 hc_13 => ?_)
    refine r_istore_n X (lv' := [(3, .int r_13), (0, .ref (α 0)), (1, .int x1), (2, .int x2)]) dX3_exit_16 rfl (by decide) rfl ?_
    refine r_aload_n X (j := 1) dX3_exit_17 rfl rfl ?_
    refine r_dup X dX3_exit_18 rfl ?_
    refine r_get X (ci := 3) (q0 := 0) (v := .int (gv σ_13 0)) inX3 rfl rfl 13 (by decide) rfl fl_X3_80 dX3_exit_19 ?_
    refine r_iconst X (v := 1) dX3_exit_22 (by decide) ?_
    refine r_isub X dX3_exit_23 ?_
    refine r_put X (ci := 3) (q0 := 0) (j := 0) inX3 rfl tyX3_ok nmX3 rfl 13 (by decide) rfl fl_X3_80 rfl (by decide +kernel) (Nat.le_of_ble_eq_true rfl) dX3_exit_24 ?_
    refine r_iload_n X (j := 0) dX3_exit_27 rfl rfl ?_
    refine r_istore X (lv' := [(4, .int r_13), (3, .int r_13), (0, .ref (α 0)), (1, .int x1), (2, .int x2)]) dX3_exit_28 (by decide) rfl ?_
    refine r_sub (lv' := [(0, .ref (α 0)), (1, .int x1), (2, .int x2), (3, .int r_13), (4, .int r_13)]) [2, 3, 4, 1, 0] rfl ?_
    exact cl_X3_exit_30 l D cI cZ α A hJ X FU x1 x2 r_13 r_13 (sv σ_13 0 ((gv σ_13 0) - 1))
set_option maxRecDepth 100000 in
set_option maxHeartbeats 4000000 in
theorem cl_X3_fork_131 (l : Launch) (D : va_G) (cI cZ : ClassId) (α : Nat → Nat) (A : Nat → Prop) (hJ : ∀ σ, va_D A ((kwM cI cZ α) σ)) {p : Program} {e : Env} {s : State} {m : MethodId} {args : Array Value} {below : List Frame} {meth : Method} {c : Code} (X : CX p s m args meth c cX3_fork 6 RX3 D (tyA cI cZ) (kwM cI cZ α) A (some .int)) : ∀ (n : Nat) (x1 : Int32) (x2 : Int32) (x3 : Int32) (x4 : Int32) (x5 : Int32) (σ : KS), Cr p l e (rmd 3) s m args below meth c 6 D (kwM cI cZ α) A vI 131 [(0, .ref (α 0)), (1, .int x1), (2, .int x2), (3, .int x3), (4, .int x4), (5, .int x5)] [] σ (f_X3_fork_131 n x1 x2 x3 x4 x5 σ) := by
  intro n
  induction n with
  | zero => intros; exact r_none
  | succ n ih =>
    intro x1 x2 x3 x4 x5 σ
    rw [f_X3_fork_131]
    refine r_iload X (j := 5) dX3_fork_131 rfl ?_
    refine r_aload_n X (j := 0) dX3_fork_133 rfl rfl ?_
    refine r_get X (ci := 3) (q0 := 0) (v := .ref (α 7)) inX3 rfl rfl 6 (by decide) rfl fl_X3_29 dX3_fork_134 ?_
    refine r_iload_n X (j := 2) dX3_fork_137 rfl rfl ?_
    refine r_iald X (q0 := 7) (t0 := 0) (kk := 7) rfl rfl dX3_fork_138 ?_
    refine r_icmp_ge X (tgt := 174) dX3_fork_139 (by decide) (fun _ => ?_) (fun _ => ?_)
    · refine r_iload_n X (j := 2) dX3_fork_174 rfl rfl ?_
      exact r_ireturn X dX3_fork_175
    · refine r_aload_n X (j := 0) dX3_fork_142 rfl rfl ?_
      refine r_get X (ci := 3) (q0 := 0) (v := .ref (α 11)) inX3 rfl rfl 10 (by decide) rfl fl_X3_41 dX3_fork_143 ?_
      refine r_sipush X (v := 256) dX3_fork_146 (by decide) ?_
      refine r_iload_n X (j := 2) dX3_fork_149 rfl rfl ?_
      refine r_imul X dX3_fork_150 ?_
      refine r_iload X (j := 5) dX3_fork_151 rfl ?_
      refine r_iadd X dX3_fork_153 ?_
      refine r_aload_n X (j := 0) dX3_fork_154 rfl rfl ?_
      refine r_get X (ci := 3) (q0 := 0) (v := .ref (α 11)) inX3 rfl rfl 10 (by decide) rfl fl_X3_41 dX3_fork_155 ?_
      refine r_sipush X (v := 256) dX3_fork_158 (by decide) ?_
      refine r_iload_n X (j := 1) dX3_fork_161 rfl rfl ?_
      refine r_imul X dX3_fork_162 ?_
      refine r_iload X (j := 5) dX3_fork_163 rfl ?_
      refine r_iadd X dX3_fork_165 ?_
      refine r_iald X (q0 := 11) (t0 := 0) (kk := 11) rfl rfl dX3_fork_166 ?_
      refine r_iast X (q0 := 11) (t0 := 0) (kk := 11) rfl (fun _ => rfl) rfl dX3_fork_167 ?_
      refine r_iinc X (j := 5) (v := (x5 + 1)) (lv' := [(5, .int (x5 + 1)), (0, .ref (α 0)), (1, .int x1), (2, .int x2), (3, .int x3), (4, .int x4)]) dX3_fork_168 rfl rfl (by decide) rfl ?_
      refine r_goto X (tgt := 131) dX3_fork_171 (by decide) ?_
      refine r_sub (lv' := [(0, .ref (α 0)), (1, .int x1), (2, .int x2), (3, .int x3), (4, .int x4), (5, .int (x5 + 1))]) [1, 2, 3, 4, 5, 0] rfl ?_
      exact ih x1 x2 x3 x4 (x5 + 1) (wr σ 11 ((256 * x2) + x5) (rd σ 11 ((256 * x1) + x5)))
set_option maxRecDepth 100000 in
set_option maxHeartbeats 4000000 in
theorem cl_X3_fork_59 (l : Launch) (D : va_G) (cI cZ : ClassId) (α : Nat → Nat) (A : Nat → Prop) (hJ : ∀ σ, va_D A ((kwM cI cZ α) σ)) {p : Program} {e : Env} {s : State} {m : MethodId} {args : Array Value} {below : List Frame} {meth : Method} {c : Code} (X : CX p s m args meth c cX3_fork 6 RX3 D (tyA cI cZ) (kwM cI cZ α) A (some .int)) : ∀ (n : Nat) (x1 : Int32) (x2 : Int32) (x3 : Int32) (x4 : Int32) (x5 : Int32) (σ : KS), Cr p l e (rmd 3) s m args below meth c 6 D (kwM cI cZ α) A vI 59 [(0, .ref (α 0)), (1, .int x1), (2, .int x2), (3, .int x3), (4, .int x4), (5, .int x5)] [] σ (f_X3_fork_59 n x1 x2 x3 x4 x5 σ) := by
  intro n
  induction n with
  | zero => intros; exact r_none
  | succ n ih =>
    intro x1 x2 x3 x4 x5 σ
    rw [f_X3_fork_59]
    refine r_iload X (j := 5) dX3_fork_59 rfl ?_
    refine r_iload X (j := 4) dX3_fork_61 rfl ?_
    refine r_icmp_ge X (tgt := 109) dX3_fork_63 (by decide) (fun _ => ?_) (fun _ => ?_)
    · refine r_aload_n X (j := 0) dX3_fork_109 rfl rfl ?_
      refine r_iload_n X (j := 2) dX3_fork_110 rfl rfl ?_
      refine r_iload_n X (j := 3) dX3_fork_111 rfl rfl ?_
      refine r_iload_n X (j := 1) dX3_fork_112 rfl rfl ?_
      refine r_callVv X (q0 := 0) (ci := 3) (n := 3) (As := [.int x2, .int x3, .int x1]) (st := []) (c_X3_begin l D cI cZ α A hJ x2 x3 x1 σ) ml_X3_96 im_X3_begin se_X3_begin ii_X3 co_X3_begin (by decide +kernel) ⟨Nat.le_of_ble_eq_true rfl, Nat.le_of_ble_eq_true rfl⟩ rfl rfl rfl rfl (Nat.le_of_ble_eq_true rfl) dX3_fork_113 (fun r_113 σ_113 hc_113 => ?_)
      refine r_aload_n X (j := 0) dX3_fork_116 rfl rfl ?_
      refine r_get X (ci := 3) (q0 := 0) (v := .ref (α 7)) inX3 rfl rfl 6 (by decide) rfl fl_X3_29 dX3_fork_117 ?_
      refine r_iload_n X (j := 2) dX3_fork_120 rfl rfl ?_
      refine r_aload_n X (j := 0) dX3_fork_121 rfl rfl ?_
      refine r_get X (ci := 3) (q0 := 0) (v := .ref (α 7)) inX3 rfl rfl 6 (by decide) rfl fl_X3_29 dX3_fork_122 ?_
      refine r_iload_n X (j := 1) dX3_fork_125 rfl rfl ?_
      refine r_iald X (q0 := 7) (t0 := 0) (kk := 7) rfl rfl dX3_fork_126 ?_
      refine r_iast X (q0 := 7) (t0 := 0) (kk := 7) rfl (fun _ => rfl) rfl dX3_fork_127 ?_
      refine r_iconst X (v := 0) dX3_fork_128 (by decide) ?_
      refine r_istore X (lv' := [(5, .int 0), (0, .ref (α 0)), (1, .int x1), (2, .int x2), (3, .int x3), (4, .int x4)]) dX3_fork_129 (by decide) rfl ?_
      refine r_sub (lv' := [(0, .ref (α 0)), (1, .int x1), (2, .int x2), (3, .int x3), (4, .int x4), (5, .int 0)]) [1, 2, 3, 4, 5, 0] rfl ?_
      exact cl_X3_fork_131 l D cI cZ α A hJ X FU x1 x2 x3 x4 0 (wr σ_113 7 x2 (rd σ_113 7 x1))
    · refine r_aload_n X (j := 0) dX3_fork_66 rfl rfl ?_
      refine r_get X (ci := 3) (q0 := 0) (v := .ref (α 12)) inX3 rfl rfl 11 (by decide) rfl fl_X3_44 dX3_fork_67 ?_
      refine r_bipush X (v := 16) dX3_fork_70 (by decide) ?_
      refine r_iload_n X (j := 2) dX3_fork_72 rfl rfl ?_
      refine r_imul X dX3_fork_73 ?_
      refine r_iload X (j := 5) dX3_fork_74 rfl ?_
      refine r_iadd X dX3_fork_76 ?_
      refine r_aload_n X (j := 0) dX3_fork_77 rfl rfl ?_
      refine r_iconst X (v := 2) dX3_fork_78 (by decide) ?_
      refine r_callVi X (q0 := 0) (ci := 3) (n := 1) (As := [.int 2]) (st := [.int ((16 * x2) + x5), .ref (α 12)]) (c_X3_takeSmall l D cI cZ α A hJ 2 σ) ml_X3_90 im_X3_takeSmall se_X3_takeSmall ii_X3 co_X3_takeSmall (by decide +kernel) ⟨Nat.le_of_ble_eq_true rfl, Nat.le_of_ble_eq_true rfl⟩ rfl rfl rfl rfl (Nat.le_of_ble_eq_true rfl) dX3_fork_79 (fun r_79 σ_79 hc_79 => ?_)
      refine r_iast X (q0 := 12) (t0 := 0) (kk := 12) rfl (fun _ => rfl) rfl dX3_fork_82 ?_
      refine r_aload_n X (j := 0) dX3_fork_83 rfl rfl ?_
      refine r_get X (ci := 3) (q0 := 0) (v := .ref (α 12)) inX3 rfl rfl 11 (by decide) rfl fl_X3_44 dX3_fork_84 ?_
      refine r_bipush X (v := 16) dX3_fork_87 (by decide) ?_
      refine r_iload_n X (j := 2) dX3_fork_89 rfl rfl ?_
      refine r_imul X dX3_fork_90 ?_
      refine r_iload X (j := 5) dX3_fork_91 rfl ?_
      refine r_iadd X dX3_fork_93 ?_
      refine r_iald X (q0 := 12) (t0 := 0) (kk := 12) rfl rfl dX3_fork_94 ?_
      refine r_if_ge X (tgt := 103) dX3_fork_95 (by decide) (fun _ => ?_) (fun _ => ?_)
      · refine r_iinc X (j := 5) (v := (x5 + 1)) (lv' := [(5, .int (x5 + 1)), (0, .ref (α 0)), (1, .int x1), (2, .int x2), (3, .int x3), (4, .int x4)]) dX3_fork_103 rfl rfl (by decide) rfl ?_
        refine r_goto X (tgt := 59) dX3_fork_106 (by decide) ?_
        refine r_sub (lv' := [(0, .ref (α 0)), (1, .int x1), (2, .int x2), (3, .int x3), (4, .int x4), (5, .int (x5 + 1))]) [1, 2, 3, 4, 5, 0] rfl ?_
        exact ih x1 x2 x3 x4 (x5 + 1) (wr σ_79 12 ((16 * x2) + x5) r_79)
      · refine r_aload_n X (j := 0) dX3_fork_98 rfl rfl ?_
        refine r_callVi X (q0 := 0) (ci := 3) (n := 0) (As := []) (st := []) (c_X3_fail l D cI cZ α A hJ (wr σ_79 12 ((16 * x2) + x5) r_79)) ml_X3_93 im_X3_fail se_X3_fail ii_X3 co_X3_fail (by decide +kernel) ⟨Nat.le_of_ble_eq_true rfl, Nat.le_of_ble_eq_true rfl⟩ rfl rfl rfl rfl (Nat.le_of_ble_eq_true rfl) dX3_fork_99 (fun r_99 σ_99 hc_99 => ?_)
        exact r_ireturn X dX3_fork_102
set_option maxRecDepth 100000 in
set_option maxHeartbeats 4000000 in
theorem c_X3_fork (l : Launch) (D : va_G) (cI cZ : ClassId) (α : Nat → Nat) (A : Nat → Prop) (hJ : ∀ σ, va_D A ((kwM cI cZ α) σ)) (x1 : Int32) (σ : KS) : Ct l D (tyA cI cZ) (kwM cI cZ α) A yX3_fork cX3_fork 6 (some .int) 3 vI [.ref (α 0), .int x1] σ (m_X3_fork x1 σ) := by
  refine Ct.of (own := RX3) hJ (by decide) rfl (Nat.le_of_ble_eq_true rfl) ?_
  intro p e s m args below meth c X
  refine r_sub (lv' := [(0, .ref (α 0)), (1, .int x1)]) [0, 1] rfl ?_
  unfold m_X3_fork
  refine r_aload_n X (j := 0) dX3_fork_0 rfl rfl ?_
  refine r_iload_n X (j := 1) dX3_fork_1 rfl rfl ?_
  refine r_callVi X (q0 := 0) (ci := 3) (n := 1) (As := [.int x1]) (st := []) (c_X3_isLive l D cI cZ α A hJ x1 σ) ml_X3_100 im_X3_isLive se_X3_isLive ii_X3 co_X3_isLive (by decide +kernel) ⟨Nat.le_of_ble_eq_true rfl, Nat.le_of_ble_eq_true rfl⟩ rfl rfl rfl rfl (Nat.le_of_ble_eq_true rfl) dX3_fork_2 (fun r_2 σ_2 hc_2 => ?_)
  refine r_if_ne X (tgt := 11) dX3_fork_5 (by decide) (fun _ => ?_) (fun _ => ?_)
  · refine r_bipush X (v := (-2)) dX3_fork_8 (by decide) ?_
    exact r_ireturn X dX3_fork_10
  · refine r_aload_n X (j := 0) dX3_fork_11 rfl rfl ?_
    refine r_callVi X (q0 := 0) (ci := 3) (n := 0) (As := []) (st := []) (c_X3_unusedNumber l D cI cZ α A hJ σ_2) ml_X3_83 im_X3_unusedNumber se_X3_unusedNumber ii_X3 co_X3_unusedNumber (by decide +kernel) ⟨Nat.le_of_ble_eq_true rfl, Nat.le_of_ble_eq_true rfl⟩ rfl rfl rfl rfl (Nat.le_of_ble_eq_true rfl) dX3_fork_12 (fun r_12 σ_12 hc_12 => ?_)
    refine r_istore_n X (lv' := [(2, .int r_12), (0, .ref (α 0)), (1, .int x1)]) dX3_fork_15 rfl (by decide) rfl ?_
    refine r_iload_n X (j := 0) dX3_fork_16 rfl rfl ?_
    refine r_if_ge X (tgt := 23) dX3_fork_17 (by decide) (fun _ => ?_) (fun _ => ?_)
    · refine r_aload_n X (j := 1) dX3_fork_23 rfl rfl ?_
      refine r_callVv X (q0 := 0) (ci := 3) (n := 0) (As := []) (st := []) (c_X3_layAside l D cI cZ α A hJ σ_12) ml_X3_87 im_X3_layAside se_X3_layAside ii_X3 co_X3_layAside (by decide +kernel) ⟨Nat.le_of_ble_eq_true rfl, Nat.le_of_ble_eq_true rfl⟩ rfl rfl rfl rfl (Nat.le_of_ble_eq_true rfl) dX3_fork_24 (fun r_24 σ_24 hc_24 => ?_)
      refine r_aload_n X (j := 1) dX3_fork_27 rfl rfl ?_
      refine r_iconst X (v := 1) dX3_fork_28 (by decide) ?_
      refine r_callVi X (q0 := 0) (ci := 3) (n := 1) (As := [.int 1]) (st := []) (c_X3_takeSmall l D cI cZ α A hJ 1 σ_24) ml_X3_90 im_X3_takeSmall se_X3_takeSmall ii_X3 co_X3_takeSmall (by decide +kernel) ⟨Nat.le_of_ble_eq_true rfl, Nat.le_of_ble_eq_true rfl⟩ rfl rfl rfl rfl (Nat.le_of_ble_eq_true rfl) dX3_fork_29 (fun r_29 σ_29 hc_29 => ?_)
      refine r_istore_n X (lv' := [(3, .int r_29), (2, .int r_12), (0, .ref (α 0)), (1, .int x1)]) dX3_fork_32 rfl (by decide) rfl ?_
      refine r_iload_n X (j := 0) dX3_fork_33 rfl rfl ?_
      refine r_if_ge X (tgt := 42) dX3_fork_34 (by decide) (fun _ => ?_) (fun _ => ?_)
      · refine r_aload_n X (j := 2) dX3_fork_42 rfl rfl ?_
        refine r_get X (ci := 3) (q0 := 0) (v := .ref (α 7)) inX3 rfl rfl 6 (by decide) rfl fl_X3_29 dX3_fork_43 ?_
        refine r_iload_n X (j := 3) dX3_fork_46 rfl rfl ?_
        refine r_iald X (q0 := 7) (t0 := 0) (kk := 7) rfl rfl dX3_fork_47 ?_
        refine r_bipush X (v := 15) dX3_fork_48 (by decide) ?_
        refine r_iadd X dX3_fork_50 ?_
        refine r_bipush X (v := 16) dX3_fork_51 (by decide) ?_
        refine r_idiv X dX3_fork_53 (by decide) ?_
        refine r_istore X (lv' := [(4, .int (((rd σ_29 7 x1) + 15) / 16)), (3, .int r_29), (2, .int r_12), (0, .ref (α 0)), (1, .int x1)]) dX3_fork_54 (by decide) rfl ?_
        refine r_iconst X (v := 0) dX3_fork_56 (by decide) ?_
        refine r_istore X (lv' := [(5, .int 0), (4, .int (((rd σ_29 7 x1) + 15) / 16)), (3, .int r_29), (2, .int r_12), (0, .ref (α 0)), (1, .int x1)]) dX3_fork_57 (by decide) rfl ?_
        refine r_sub (lv' := [(0, .ref (α 0)), (1, .int x1), (2, .int r_12), (3, .int r_29), (4, .int (((rd σ_29 7 x1) + 15) / 16)), (5, .int 0)]) [4, 5, 3, 2, 1, 0] rfl ?_
        exact cl_X3_fork_59 l D cI cZ α A hJ X FU x1 r_12 r_29 (((rd σ_29 7 x1) + 15) / 16) 0 σ_29
      · refine r_aload_n X (j := 2) dX3_fork_37 rfl rfl ?_
        refine r_callVi X (q0 := 0) (ci := 3) (n := 0) (As := []) (st := []) (c_X3_fail l D cI cZ α A hJ σ_29) ml_X3_93 im_X3_fail se_X3_fail ii_X3 co_X3_fail (by decide +kernel) ⟨Nat.le_of_ble_eq_true rfl, Nat.le_of_ble_eq_true rfl⟩ rfl rfl rfl rfl (Nat.le_of_ble_eq_true rfl) dX3_fork_38 (fun r_38 σ_38 hc_38 => ?_)
        exact r_ireturn X dX3_fork_41
    · refine r_bipush X (v := (-4)) dX3_fork_20 (by decide) ?_
      exact r_ireturn X dX3_fork_22
set_option maxRecDepth 100000 in
set_option maxHeartbeats 4000000 in
theorem cl_X3_grow_197 (l : Launch) (D : va_G) (cI cZ : ClassId) (α : Nat → Nat) (A : Nat → Prop) (hJ : ∀ σ, va_D A ((kwM cI cZ α) σ)) {p : Program} {e : Env} {s : State} {m : MethodId} {args : Array Value} {below : List Frame} {meth : Method} {c : Code} (X : CX p s m args meth c cX3_grow 8 RX3 D (tyA cI cZ) (kwM cI cZ α) A (some .int)) (kk : Int32 → Int32 → Int64 → Int32 → Int32 → KS → KR) (hkk : ∀ (y1 : Int32) (y2 : Int32) (y3 : Int64) (y5 : Int32) (y6 : Int32) (σ : KS), Cr p l e (rmd 3) s m args below meth c 8 D (kwM cI cZ α) A vI 186 [(0, .ref (α 0)), (1, .int y1), (2, .int y2), (3, .long y3), (5, .int y5), (6, .int y6)] [] σ (kk y1 y2 y3 y5 y6 σ)) : ∀ (n : Nat) (x1 : Int32) (x2 : Int32) (x3 : Int64) (x5 : Int32) (x6 : Int32) (x7 : Int32) (σ : KS), Cr p l e (rmd 3) s m args below meth c 8 D (kwM cI cZ α) A vI 197 [(0, .ref (α 0)), (1, .int x1), (2, .int x2), (3, .long x3), (5, .int x5), (6, .int x6), (7, .int x7)] [] σ (f_X3_grow_197 kk n x1 x2 x3 x5 x6 x7 σ) := by
  intro n
  induction n with
  | zero => intros; exact r_none
  | succ n ih =>
    intro x1 x2 x3 x5 x6 x7 σ
    rw [f_X3_grow_197]
    refine r_iload X (j := 6) dX3_grow_197 rfl ?_
    refine r_bipush X (v := 64) dX3_grow_199 (by decide) ?_
    refine r_icmp_ge X (tgt := 235) dX3_grow_201 (by decide) (fun _ => ?_) (fun _ => ?_)
    · refine r_iinc X (j := 5) (v := (x6 + 1)) (lv' := [(6, .int (x6 + 1)), (0, .ref (α 0)), (1, .int x1), (2, .int x2), (3, .long x3), (5, .int x5), (7, .int x7)]) dX3_grow_235 rfl rfl (by decide) rfl ?_
      refine r_goto X (tgt := 186) dX3_grow_238 (by decide) ?_
      refine r_sub (lv' := [(0, .ref (α 0)), (1, .int x1), (2, .int x2), (3, .long x3), (5, .int x5), (6, .int (x6 + 1))]) [1, 2, 3, 4, 5, 0] rfl ?_
      exact hkk x1 x2 x3 x5 (x6 + 1) σ
    · refine r_aload_n X (j := 0) dX3_grow_204 rfl rfl ?_
      refine r_get X (ci := 3) (q0 := 0) (v := .ref (α 4)) inX3 rfl rfl 3 (by decide) rfl fl_X3_20 dX3_grow_205 ?_
      refine r_bipush X (v := 64) dX3_grow_208 (by decide) ?_
      refine r_aload_n X (j := 0) dX3_grow_210 rfl rfl ?_
      refine r_get X (ci := 3) (q0 := 0) (v := .ref (α 11)) inX3 rfl rfl 10 (by decide) rfl fl_X3_41 dX3_grow_211 ?_
      refine r_sipush X (v := 256) dX3_grow_214 (by decide) ?_
      refine r_iload_n X (j := 1) dX3_grow_217 rfl rfl ?_
      refine r_imul X dX3_grow_218 ?_
      refine r_iload X (j := 5) dX3_grow_219 rfl ?_
      refine r_iadd X dX3_grow_221 ?_
      refine r_iald X (q0 := 11) (t0 := 0) (kk := 11) rfl rfl dX3_grow_222 ?_
      refine r_imul X dX3_grow_223 ?_
      refine r_iload X (j := 6) dX3_grow_224 rfl ?_
      refine r_iadd X dX3_grow_226 ?_
      refine r_iconst X (v := 0) dX3_grow_227 (by decide) ?_
      refine r_iast X (q0 := 4) (t0 := 0) (kk := 4) rfl (fun _ => rfl) rfl dX3_grow_228 ?_
      refine r_iinc X (j := 6) (v := (x7 + 1)) (lv' := [(7, .int (x7 + 1)), (0, .ref (α 0)), (1, .int x1), (2, .int x2), (3, .long x3), (5, .int x5), (6, .int x6)]) dX3_grow_229 rfl rfl (by decide) rfl ?_
      refine r_goto X (tgt := 197) dX3_grow_232 (by decide) ?_
      refine r_sub (lv' := [(0, .ref (α 0)), (1, .int x1), (2, .int x2), (3, .long x3), (5, .int x5), (6, .int x6), (7, .int (x7 + 1))]) [1, 2, 3, 4, 5, 6, 0] rfl ?_
      exact ih x1 x2 x3 x5 x6 (x7 + 1) (wr σ 4 ((64 * (rd σ 11 ((256 * x1) + x6))) + x7) 0)
set_option maxRecDepth 100000 in
set_option maxHeartbeats 4000000 in
theorem cl_X3_grow_186 (l : Launch) (D : va_G) (cI cZ : ClassId) (α : Nat → Nat) (A : Nat → Prop) (hJ : ∀ σ, va_D A ((kwM cI cZ α) σ)) {p : Program} {e : Env} {s : State} {m : MethodId} {args : Array Value} {below : List Frame} {meth : Method} {c : Code} (X : CX p s m args meth c cX3_grow 8 RX3 D (tyA cI cZ) (kwM cI cZ α) A (some .int)) : ∀ (n : Nat) (x1 : Int32) (x2 : Int32) (x3 : Int64) (x5 : Int32) (x6 : Int32) (σ : KS), Cr p l e (rmd 3) s m args below meth c 8 D (kwM cI cZ α) A vI 186 [(0, .ref (α 0)), (1, .int x1), (2, .int x2), (3, .long x3), (5, .int x5), (6, .int x6)] [] σ (f_X3_grow_186 n x1 x2 x3 x5 x6 σ) := by
  intro n
  induction n with
  | zero => intros; exact r_none
  | succ n ih =>
    intro x1 x2 x3 x5 x6 σ
    rw [f_X3_grow_186]
    refine r_iload X (j := 5) dX3_grow_186 rfl ?_
    refine r_i2l X dX3_grow_188 ?_
    refine r_lload_n X (j := 3) dX3_grow_189 rfl rfl ?_
    refine r_lcmp X dX3_grow_190 ?_
    refine r_if_ge X (tgt := 241) dX3_grow_191 (by decide) (fun _ => ?_) (fun _ => ?_)
    · refine r_aload_n X (j := 0) dX3_grow_241 rfl rfl ?_
      refine r_get X (ci := 3) (q0 := 0) (v := .ref (α 7)) inX3 rfl rfl 6 (by decide) rfl fl_X3_29 dX3_grow_242 ?_
      refine r_iload_n X (j := 1) dX3_grow_245 rfl rfl ?_
      refine r_lload_n X (j := 3) dX3_grow_246 rfl rfl ?_
      refine r_l2i X dX3_grow_247 ?_
      refine r_iast X (q0 := 7) (t0 := 0) (kk := 7) rfl (fun _ => rfl) rfl dX3_grow_248 ?_
      refine r_iload X (j := 4) dX3_grow_249 rfl ?_
      exact r_ireturn X dX3_grow_251
    · refine r_iconst X (v := 0) dX3_grow_194 (by decide) ?_
      refine r_istore X (lv' := [(7, .int 0), (0, .ref (α 0)), (1, .int x1), (2, .int x2), (3, .long x3), (5, .int x5), (6, .int x6)]) dX3_grow_195 (by decide) rfl ?_
      refine r_sub (lv' := [(0, .ref (α 0)), (1, .int x1), (2, .int x2), (3, .long x3), (5, .int x5), (6, .int x6), (7, .int 0)]) [1, 2, 3, 4, 5, 6, 0] rfl ?_
      exact cl_X3_grow_197 l D cI cZ α A hJ X (fun y1 y2 y3 y5 y6 σ => f_X3_grow_186 n y1 y2 y3 y5 y6 σ) (fun y1 y2 y3 y5 y6 σ => ih y1 y2 y3 y5 y6 σ) FU x1 x2 x3 x5 x6 0 σ
set_option maxRecDepth 100000 in
set_option maxHeartbeats 4000000 in
theorem cl_X3_grow_85 (l : Launch) (D : va_G) (cI cZ : ClassId) (α : Nat → Nat) (A : Nat → Prop) (hJ : ∀ σ, va_D A ((kwM cI cZ α) σ)) {p : Program} {e : Env} {s : State} {m : MethodId} {args : Array Value} {below : List Frame} {meth : Method} {c : Code} (X : CX p s m args meth c cX3_grow 8 RX3 D (tyA cI cZ) (kwM cI cZ α) A (some .int)) : ∀ (n : Nat) (x1 : Int32) (x2 : Int32) (x3 : Int64) (x5 : Int32) (x6 : Int32) (σ : KS), Cr p l e (rmd 3) s m args below meth c 8 D (kwM cI cZ α) A vI 85 [(0, .ref (α 0)), (1, .int x1), (2, .int x2), (3, .long x3), (5, .int x5), (6, .int x6)] [] σ (f_X3_grow_85 n x1 x2 x3 x5 x6 σ) := by
  intro n
  induction n with
  | zero => intros; exact r_none
  | succ n ih =>
    intro x1 x2 x3 x5 x6 σ
    rw [f_X3_grow_85]
    refine r_iload X (j := 5) dX3_grow_85 rfl ?_
    refine r_i2l X dX3_grow_87 ?_
    refine r_lload_n X (j := 3) dX3_grow_88 rfl rfl ?_
    refine r_lcmp X dX3_grow_89 ?_
    refine r_if_ge X (tgt := 182) dX3_grow_90 (by decide) (fun _ => ?_) (fun _ => ?_)
    · refine r_iload X (j := 4) dX3_grow_182 rfl ?_
      refine r_istore X (lv' := [(6, .int x5), (0, .ref (α 0)), (1, .int x1), (2, .int x2), (3, .long x3), (5, .int x5)]) dX3_grow_184 (by decide) rfl ?_
      refine r_sub (lv' := [(0, .ref (α 0)), (1, .int x1), (2, .int x2), (3, .long x3), (5, .int x5), (6, .int x5)]) [1, 2, 3, 4, 5, 0] rfl ?_
      exact cl_X3_grow_186 l D cI cZ α A hJ X FU x1 x2 x3 x5 x5 σ
    · refine r_iload X (j := 5) dX3_grow_93 rfl ?_
      refine r_bipush X (v := 16) dX3_grow_95 (by decide) ?_
      refine r_irem X dX3_grow_97 (by decide) ?_
      refine r_if_ne X (tgt := 144) dX3_grow_98 (by decide) (fun _ => ?_) (fun _ => ?_)
      · refine r_aload_n X (j := 0) dX3_grow_101 rfl rfl ?_
        refine r_get X (ci := 3) (q0 := 0) (v := .ref (α 12)) inX3 rfl rfl 11 (by decide) rfl fl_X3_44 dX3_grow_102 ?_
        refine r_bipush X (v := 16) dX3_grow_105 (by decide) ?_
        refine r_iload_n X (j := 1) dX3_grow_107 rfl rfl ?_
        refine r_imul X dX3_grow_108 ?_
        refine r_iload X (j := 5) dX3_grow_109 rfl ?_
        refine r_bipush X (v := 16) dX3_grow_111 (by decide) ?_
        refine r_idiv X dX3_grow_113 (by decide) ?_
        refine r_iadd X dX3_grow_114 ?_
        refine r_aload_n X (j := 0) dX3_grow_115 rfl rfl ?_
        refine r_iconst X (v := 2) dX3_grow_116 (by decide) ?_
        refine r_callVi X (q0 := 0) (ci := 3) (n := 1) (As := [.int 2]) (st := [.int ((16 * x1) + (x6 / 16)), .ref (α 12)]) (c_X3_takeSmall l D cI cZ α A hJ 2 σ) ml_X3_90 im_X3_takeSmall se_X3_takeSmall ii_X3 co_X3_takeSmall (by decide +kernel) ⟨Nat.le_of_ble_eq_true rfl, Nat.le_of_ble_eq_true rfl⟩ rfl rfl rfl rfl (Nat.le_of_ble_eq_true rfl) dX3_grow_117 (fun r_117 σ_117 hc_117 => ?_)
        refine r_iast X (q0 := 12) (t0 := 0) (kk := 12) rfl (fun _ => rfl) rfl dX3_grow_120 ?_
        refine r_aload_n X (j := 0) dX3_grow_121 rfl rfl ?_
        refine r_get X (ci := 3) (q0 := 0) (v := .ref (α 12)) inX3 rfl rfl 11 (by decide) rfl fl_X3_44 dX3_grow_122 ?_
        refine r_bipush X (v := 16) dX3_grow_125 (by decide) ?_
        refine r_iload_n X (j := 1) dX3_grow_127 rfl rfl ?_
        refine r_imul X dX3_grow_128 ?_
        refine r_iload X (j := 5) dX3_grow_129 rfl ?_
        refine r_bipush X (v := 16) dX3_grow_131 (by decide) ?_
        refine r_idiv X dX3_grow_133 (by decide) ?_
        refine r_iadd X dX3_grow_134 ?_
        refine r_iald X (q0 := 12) (t0 := 0) (kk := 12) rfl rfl dX3_grow_135 ?_
        refine r_if_ge X (tgt := 144) dX3_grow_136 (by decide) (fun _ => ?_) (fun _ => ?_)
        · refine r_aload_n X (j := 0) dX3_grow_144 rfl rfl ?_
          refine r_iconst X (v := 3) dX3_grow_145 (by decide) ?_
          refine r_callVi X (q0 := 0) (ci := 3) (n := 1) (As := [.int 3]) (st := []) (c_X3_takeFrame l D cI cZ α A hJ 3 (wr σ_117 12 ((16 * x1) + (x6 / 16)) r_117)) ml_X3_70 im_X3_takeFrame se_X3_takeFrame ii_X3 co_X3_takeFrame (by decide +kernel) ⟨Nat.le_of_ble_eq_true rfl, Nat.le_of_ble_eq_true rfl⟩ rfl rfl rfl rfl (Nat.le_of_ble_eq_true rfl) dX3_grow_146 (fun r_146 σ_146 hc_146 => ?_)
          refine r_istore X (lv' := [(7, .int r_146), (0, .ref (α 0)), (1, .int x1), (2, .int x2), (3, .long x3), (5, .int x5), (6, .int x6)]) dX3_grow_149 (by decide) rfl ?_
          refine r_iload X (j := 0) dX3_grow_151 rfl ?_
          refine r_if_ge X (tgt := 161) dX3_grow_153 (by decide) (fun _ => ?_) (fun _ => ?_)
          · refine r_aload_n X (j := 1) dX3_grow_161 rfl rfl ?_
            refine r_get X (ci := 3) (q0 := 0) (v := .ref (α 11)) inX3 rfl rfl 10 (by decide) rfl fl_X3_41 dX3_grow_162 ?_
            refine r_sipush X (v := 256) dX3_grow_165 (by decide) ?_
            refine r_iload_n X (j := 2) dX3_grow_168 rfl rfl ?_
            refine r_imul X dX3_grow_169 ?_
            refine r_iload X (j := 6) dX3_grow_170 rfl ?_
            refine r_iadd X dX3_grow_172 ?_
            refine r_iload X (j := 0) dX3_grow_173 rfl ?_
            refine r_iast X (q0 := 11) (t0 := 0) (kk := 11) rfl (fun _ => rfl) rfl dX3_grow_175 ?_
            refine r_iinc X (j := 6) (v := (x6 + 1)) (lv' := [(6, .int (x6 + 1)), (7, .int r_146), (0, .ref (α 0)), (1, .int x1), (2, .int x2), (3, .long x3), (5, .int x5)]) dX3_grow_176 rfl rfl (by decide) rfl ?_
            refine r_goto X (tgt := 85) dX3_grow_179 (by decide) ?_
            refine r_sub (lv' := [(0, .ref (α 0)), (1, .int x1), (2, .int x2), (3, .long x3), (5, .int x5), (6, .int (x6 + 1))]) [2, 3, 4, 5, 6, 0] rfl ?_
            exact ih x1 x2 x3 x5 (x6 + 1) (wr σ_146 11 ((256 * x1) + x6) r_146)
          · refine r_aload_n X (j := 1) dX3_grow_156 rfl rfl ?_
            refine r_callVi X (q0 := 0) (ci := 3) (n := 0) (As := []) (st := []) (c_X3_fail l D cI cZ α A hJ σ_146) ml_X3_93 im_X3_fail se_X3_fail ii_X3 co_X3_fail (by decide +kernel) ⟨Nat.le_of_ble_eq_true rfl, Nat.le_of_ble_eq_true rfl⟩ rfl rfl rfl rfl (Nat.le_of_ble_eq_true rfl) dX3_grow_157 (fun r_157 σ_157 hc_157 => ?_)
            exact r_ireturn X dX3_grow_160
        · refine r_aload_n X (j := 0) dX3_grow_139 rfl rfl ?_
          refine r_callVi X (q0 := 0) (ci := 3) (n := 0) (As := []) (st := []) (c_X3_fail l D cI cZ α A hJ (wr σ_117 12 ((16 * x1) + (x6 / 16)) r_117)) ml_X3_93 im_X3_fail se_X3_fail ii_X3 co_X3_fail (by decide +kernel) ⟨Nat.le_of_ble_eq_true rfl, Nat.le_of_ble_eq_true rfl⟩ rfl rfl rfl rfl (Nat.le_of_ble_eq_true rfl) dX3_grow_140 (fun r_140 σ_140 hc_140 => ?_)
          exact r_ireturn X dX3_grow_143
      · refine r_aload_n X (j := 0) dX3_grow_144 rfl rfl ?_
        refine r_iconst X (v := 3) dX3_grow_145 (by decide) ?_
        refine r_callVi X (q0 := 0) (ci := 3) (n := 1) (As := [.int 3]) (st := []) (c_X3_takeFrame l D cI cZ α A hJ 3 σ) ml_X3_70 im_X3_takeFrame se_X3_takeFrame ii_X3 co_X3_takeFrame (by decide +kernel) ⟨Nat.le_of_ble_eq_true rfl, Nat.le_of_ble_eq_true rfl⟩ rfl rfl rfl rfl (Nat.le_of_ble_eq_true rfl) dX3_grow_146 (fun r_146 σ_146 hc_146 => ?_)
        refine r_istore X (lv' := [(7, .int r_146), (0, .ref (α 0)), (1, .int x1), (2, .int x2), (3, .long x3), (5, .int x5), (6, .int x6)]) dX3_grow_149 (by decide) rfl ?_
        refine r_iload X (j := 0) dX3_grow_151 rfl ?_
        refine r_if_ge X (tgt := 161) dX3_grow_153 (by decide) (fun _ => ?_) (fun _ => ?_)
        · refine r_aload_n X (j := 1) dX3_grow_161 rfl rfl ?_
          refine r_get X (ci := 3) (q0 := 0) (v := .ref (α 11)) inX3 rfl rfl 10 (by decide) rfl fl_X3_41 dX3_grow_162 ?_
          refine r_sipush X (v := 256) dX3_grow_165 (by decide) ?_
          refine r_iload_n X (j := 2) dX3_grow_168 rfl rfl ?_
          refine r_imul X dX3_grow_169 ?_
          refine r_iload X (j := 6) dX3_grow_170 rfl ?_
          refine r_iadd X dX3_grow_172 ?_
          refine r_iload X (j := 0) dX3_grow_173 rfl ?_
          refine r_iast X (q0 := 11) (t0 := 0) (kk := 11) rfl (fun _ => rfl) rfl dX3_grow_175 ?_
          refine r_iinc X (j := 6) (v := (x6 + 1)) (lv' := [(6, .int (x6 + 1)), (7, .int r_146), (0, .ref (α 0)), (1, .int x1), (2, .int x2), (3, .long x3), (5, .int x5)]) dX3_grow_176 rfl rfl (by decide) rfl ?_
          refine r_goto X (tgt := 85) dX3_grow_179 (by decide) ?_
          refine r_sub (lv' := [(0, .ref (α 0)), (1, .int x1), (2, .int x2), (3, .long x3), (5, .int x5), (6, .int (x6 + 1))]) [2, 3, 4, 5, 6, 0] rfl ?_
          exact ih x1 x2 x3 x5 (x6 + 1) (wr σ_146 11 ((256 * x1) + x6) r_146)
        · refine r_aload_n X (j := 1) dX3_grow_156 rfl rfl ?_
          refine r_callVi X (q0 := 0) (ci := 3) (n := 0) (As := []) (st := []) (c_X3_fail l D cI cZ α A hJ σ_146) ml_X3_93 im_X3_fail se_X3_fail ii_X3 co_X3_fail (by decide +kernel) ⟨Nat.le_of_ble_eq_true rfl, Nat.le_of_ble_eq_true rfl⟩ rfl rfl rfl rfl (Nat.le_of_ble_eq_true rfl) dX3_grow_157 (fun r_157 σ_157 hc_157 => ?_)
          exact r_ireturn X dX3_grow_160
set_option maxRecDepth 100000 in
set_option maxHeartbeats 4000000 in
theorem cl_X3_grow_54 (l : Launch) (D : va_G) (cI cZ : ClassId) (α : Nat → Nat) (A : Nat → Prop) (hJ : ∀ σ, va_D A ((kwM cI cZ α) σ)) {p : Program} {e : Env} {s : State} {m : MethodId} {args : Array Value} {below : List Frame} {meth : Method} {c : Code} (X : CX p s m args meth c cX3_grow 8 RX3 D (tyA cI cZ) (kwM cI cZ α) A (some .int)) : ∀ (n : Nat) (x1 : Int32) (x2 : Int32) (x3 : Int64) (x5 : Int32) (σ : KS), Cr p l e (rmd 3) s m args below meth c 8 D (kwM cI cZ α) A vI 54 [(0, .ref (α 0)), (1, .int x1), (2, .int x2), (3, .long x3), (5, .int x5)] [] σ (f_X3_grow_54 n x1 x2 x3 x5 σ) := by
  intro n
  induction n with
  | zero => intros; exact r_none
  | succ n ih =>
    intro x1 x2 x3 x5 σ
    rw [f_X3_grow_54]
    refine r_aload_n X (j := 0) dX3_grow_54 rfl rfl ?_
    refine r_get X (ci := 3) (q0 := 0) (v := .ref (α 7)) inX3 rfl rfl 6 (by decide) rfl fl_X3_29 dX3_grow_55 ?_
    refine r_iload_n X (j := 1) dX3_grow_58 rfl rfl ?_
    refine r_iald X (q0 := 7) (t0 := 0) (kk := 7) rfl rfl dX3_grow_59 ?_
    refine r_i2l X dX3_grow_60 ?_
    refine r_lload_n X (j := 3) dX3_grow_61 rfl rfl ?_
    refine r_lcmp X dX3_grow_62 ?_
    refine r_if_le X (tgt := 74) dX3_grow_63 (by decide) (fun _ => ?_) (fun _ => ?_)
    · refine r_iload X (j := 4) dX3_grow_74 rfl ?_
      exact r_ireturn X dX3_grow_76
    · refine r_aload_n X (j := 0) dX3_grow_66 rfl rfl ?_
      refine r_iload_n X (j := 1) dX3_grow_67 rfl rfl ?_
      refine r_callVv X (q0 := 0) (ci := 3) (n := 1) (As := [.int x1]) (st := []) (c_X3_dropPage l D cI cZ α A hJ x1 σ) ml_X3_115 im_X3_dropPage se_X3_dropPage ii_X3 co_X3_dropPage (by decide +kernel) ⟨Nat.le_of_ble_eq_true rfl, Nat.le_of_ble_eq_true rfl⟩ rfl rfl rfl rfl (Nat.le_of_ble_eq_true rfl) dX3_grow_68 (fun r_68 σ_68 hc_68 => ?_)
      refine r_goto X (tgt := 54) dX3_grow_71 (by decide) ?_
      refine r_sub (lv' := [(0, .ref (α 0)), (1, .int x1), (2, .int x2), (3, .long x3), (5, .int x5)]) [0, 1, 2, 3, 4] rfl ?_
      exact ih x1 x2 x3 x5 σ_68
set_option maxRecDepth 100000 in
set_option maxHeartbeats 4000000 in
theorem c_X3_grow (l : Launch) (D : va_G) (cI cZ : ClassId) (α : Nat → Nat) (A : Nat → Prop) (hJ : ∀ σ, va_D A ((kwM cI cZ α) σ)) (x1 x2 : Int32) (σ : KS) : Ct l D (tyA cI cZ) (kwM cI cZ α) A yX3_grow cX3_grow 8 (some .int) 3 vI [.ref (α 0), .int x1, .int x2] σ (m_X3_grow x1 x2 σ) := by
  refine Ct.of (own := RX3) hJ (by decide) rfl (Nat.le_of_ble_eq_true rfl) ?_
  intro p e s m args below meth c X
  refine r_sub (lv' := [(0, .ref (α 0)), (1, .int x1), (2, .int x2)]) [0, 1, 2] rfl ?_
  unfold m_X3_grow
  refine r_aload_n X (j := 0) dX3_grow_0 rfl rfl ?_
  refine r_iload_n X (j := 1) dX3_grow_1 rfl rfl ?_
  refine r_callVi X (q0 := 0) (ci := 3) (n := 1) (As := [.int x1]) (st := []) (c_X3_isLive l D cI cZ α A hJ x1 σ) ml_X3_100 im_X3_isLive se_X3_isLive ii_X3 co_X3_isLive (by decide +kernel) ⟨Nat.le_of_ble_eq_true rfl, Nat.le_of_ble_eq_true rfl⟩ rfl rfl rfl rfl (Nat.le_of_ble_eq_true rfl) dX3_grow_2 (fun r_2 σ_2 hc_2 => ?_)
  refine r_if_eq X (tgt := 21) dX3_grow_5 (by decide) (fun _ => ?_) (fun _ => ?_)
  · refine r_ldc2 X kl_111 dX3_grow_21 ?_
    refine r_lstore_n X (lv' := [(3, .long (-1)), (0, .ref (α 0)), (1, .int x1), (2, .int x2)]) dX3_grow_24 rfl (by decide) rfl ?_
    refine r_lload_n X (j := 0) dX3_grow_25 rfl rfl ?_
    refine r_lconst X (v := 0) dX3_grow_26 (by decide) ?_
    refine r_lcmp X dX3_grow_27 ?_
    refine r_if_lt X (tgt := 39) dX3_grow_28 (by decide) (fun _ => ?_) (fun _ => ?_)
    · refine r_bipush X (v := (-2)) dX3_grow_39 (by decide) ?_
      exact r_ireturn X dX3_grow_41
    · refine r_lload_n X (j := 0) dX3_grow_31 rfl rfl ?_
      refine r_ldc2 X kl_113 dX3_grow_32 ?_
      refine r_lcmp X dX3_grow_35 ?_
      refine r_if_le X (tgt := 42) dX3_grow_36 (by decide) (fun _ => ?_) (fun _ => ?_)
      · refine r_aload_n X (j := 1) dX3_grow_42 rfl rfl ?_
        refine r_get X (ci := 3) (q0 := 0) (v := .ref (α 7)) inX3 rfl rfl 6 (by decide) rfl fl_X3_29 dX3_grow_43 ?_
        refine r_iload_n X (j := 2) dX3_grow_46 rfl rfl ?_
        refine r_iald X (q0 := 7) (t0 := 0) (kk := 7) rfl rfl dX3_grow_47 ?_
        refine r_istore X (lv' := [(5, .int (rd σ_2 7 x1)), (3, .long (-1)), (0, .ref (α 0)), (1, .int x1), (2, .int x2)]) dX3_grow_48 (by decide) rfl ?_
        refine r_iload_n X (j := 4) dX3_grow_50 rfl rfl ?_
        refine r_if_gt X (tgt := 77) dX3_grow_51 (by decide) (fun _ => ?_) (fun _ => ?_)
        · refine r_aload_n X (j := 2) dX3_grow_77 rfl rfl ?_
          refine r_callVv X (q0 := 0) (ci := 3) (n := 0) (As := []) (st := []) (c_X3_layAside l D cI cZ α A hJ σ_2) ml_X3_87 im_X3_layAside se_X3_layAside ii_X3 co_X3_layAside (by decide +kernel) ⟨Nat.le_of_ble_eq_true rfl, Nat.le_of_ble_eq_true rfl⟩ rfl rfl rfl rfl (Nat.le_of_ble_eq_true rfl) dX3_grow_78 (fun r_78 σ_78 hc_78 => ?_)
          refine r_iload X (j := 0) dX3_grow_81 rfl ?_
          refine r_istore X (lv' := [(6, .int (rd σ_2 7 x1)), (5, .int (rd σ_2 7 x1)), (3, .long (-1)), (0, .ref (α 0)), (1, .int x1), (2, .int x2)]) dX3_grow_83 (by decide) rfl ?_
          refine r_sub (lv' := [(0, .ref (α 0)), (1, .int x1), (2, .int x2), (3, .long (-1)), (5, .int (rd σ_2 7 x1)), (6, .int (rd σ_2 7 x1))]) [3, 4, 5, 2, 1, 0] rfl ?_
          exact cl_X3_grow_85 l D cI cZ α A hJ X FU x1 x2 (-1) (rd σ_2 7 x1) (rd σ_2 7 x1) σ_78
        · refine r_sub (lv' := [(0, .ref (α 0)), (1, .int x1), (2, .int x2), (3, .long (-1)), (5, .int (rd σ_2 7 x1))]) [2, 3, 4, 1, 0] rfl ?_
          exact cl_X3_grow_54 l D cI cZ α A hJ X FU x1 x2 (-1) (rd σ_2 7 x1) σ_2
      · refine r_bipush X (v := (-2)) dX3_grow_39 (by decide) ?_
        exact r_ireturn X dX3_grow_41
  · refine r_aload_n X (j := 0) dX3_grow_8 rfl rfl ?_
    refine r_get X (ci := 3) (q0 := 0) (v := .ref (α 7)) inX3 rfl rfl 6 (by decide) rfl fl_X3_29 dX3_grow_9 ?_
    refine r_iload_n X (j := 1) dX3_grow_12 rfl rfl ?_
    refine r_iald X (q0 := 7) (t0 := 0) (kk := 7) rfl rfl dX3_grow_13 ?_
    refine r_i2l X dX3_grow_14 ?_
    refine r_iload_n X (j := 2) dX3_grow_15 rfl rfl ?_
    refine r_i2l X dX3_grow_16 ?_
    refine r_ladd X dX3_grow_17 ?_
    refine r_goto X (tgt := 24) dX3_grow_18 (by decide) ?_
    refine r_lstore_n X (lv' := [(3, .long (((rd σ_2 7 x1).toInt64) + x2.toInt64)), (0, .ref (α 0)), (1, .int x1), (2, .int x2)]) dX3_grow_24 rfl (by decide) rfl ?_
    refine r_lload_n X (j := 0) dX3_grow_25 rfl rfl ?_
    refine r_lconst X (v := 0) dX3_grow_26 (by decide) ?_
    refine r_lcmp X dX3_grow_27 ?_
    refine r_if_lt X (tgt := 39) dX3_grow_28 (by decide) (fun _ => ?_) (fun _ => ?_)
    · refine r_bipush X (v := (-2)) dX3_grow_39 (by decide) ?_
      exact r_ireturn X dX3_grow_41
    · refine r_lload_n X (j := 0) dX3_grow_31 rfl rfl ?_
      refine r_ldc2 X kl_113 dX3_grow_32 ?_
      refine r_lcmp X dX3_grow_35 ?_
      refine r_if_le X (tgt := 42) dX3_grow_36 (by decide) (fun _ => ?_) (fun _ => ?_)
      · refine r_aload_n X (j := 1) dX3_grow_42 rfl rfl ?_
        refine r_get X (ci := 3) (q0 := 0) (v := .ref (α 7)) inX3 rfl rfl 6 (by decide) rfl fl_X3_29 dX3_grow_43 ?_
        refine r_iload_n X (j := 2) dX3_grow_46 rfl rfl ?_
        refine r_iald X (q0 := 7) (t0 := 0) (kk := 7) rfl rfl dX3_grow_47 ?_
        refine r_istore X (lv' := [(5, .int (rd σ_2 7 x1)), (3, .long (((rd σ_2 7 x1).toInt64) + x2.toInt64)), (0, .ref (α 0)), (1, .int x1), (2, .int x2)]) dX3_grow_48 (by decide) rfl ?_
        refine r_iload_n X (j := 4) dX3_grow_50 rfl rfl ?_
        refine r_if_gt X (tgt := 77) dX3_grow_51 (by decide) (fun _ => ?_) (fun _ => ?_)
        · refine r_aload_n X (j := 2) dX3_grow_77 rfl rfl ?_
          refine r_callVv X (q0 := 0) (ci := 3) (n := 0) (As := []) (st := []) (c_X3_layAside l D cI cZ α A hJ σ_2) ml_X3_87 im_X3_layAside se_X3_layAside ii_X3 co_X3_layAside (by decide +kernel) ⟨Nat.le_of_ble_eq_true rfl, Nat.le_of_ble_eq_true rfl⟩ rfl rfl rfl rfl (Nat.le_of_ble_eq_true rfl) dX3_grow_78 (fun r_78 σ_78 hc_78 => ?_)
          refine r_iload X (j := 0) dX3_grow_81 rfl ?_
          refine r_istore X (lv' := [(6, .int (rd σ_2 7 x1)), (5, .int (rd σ_2 7 x1)), (3, .long (((rd σ_2 7 x1).toInt64) + x2.toInt64)), (0, .ref (α 0)), (1, .int x1), (2, .int x2)]) dX3_grow_83 (by decide) rfl ?_
          refine r_sub (lv' := [(0, .ref (α 0)), (1, .int x1), (2, .int x2), (3, .long (((rd σ_2 7 x1).toInt64) + x2.toInt64)), (5, .int (rd σ_2 7 x1)), (6, .int (rd σ_2 7 x1))]) [3, 4, 5, 2, 1, 0] rfl ?_
          exact cl_X3_grow_85 l D cI cZ α A hJ X FU x1 x2 (((rd σ_2 7 x1).toInt64) + x2.toInt64) (rd σ_2 7 x1) (rd σ_2 7 x1) σ_78
        · refine r_sub (lv' := [(0, .ref (α 0)), (1, .int x1), (2, .int x2), (3, .long (((rd σ_2 7 x1).toInt64) + x2.toInt64)), (5, .int (rd σ_2 7 x1))]) [2, 3, 4, 1, 0] rfl ?_
          exact cl_X3_grow_54 l D cI cZ α A hJ X FU x1 x2 (((rd σ_2 7 x1).toInt64) + x2.toInt64) (rd σ_2 7 x1) σ_2
      · refine r_bipush X (v := (-2)) dX3_grow_39 (by decide) ?_
        exact r_ireturn X dX3_grow_41
set_option maxRecDepth 100000 in
set_option maxHeartbeats 4000000 in
theorem cl_X3_reap_15 (l : Launch) (D : va_G) (cI cZ : ClassId) (α : Nat → Nat) (A : Nat → Prop) (hJ : ∀ σ, va_D A ((kwM cI cZ α) σ)) {p : Program} {e : Env} {s : State} {m : MethodId} {args : Array Value} {below : List Frame} {meth : Method} {c : Code} (X : CX p s m args meth c cX3_reap 5 RX3 D (tyA cI cZ) (kwM cI cZ α) A (some .int)) : ∀ (n : Nat) (x1 : Int32) (x2 : Int32) (x3 : Int32) (σ : KS), Cr p l e (rmd 3) s m args below meth c 5 D (kwM cI cZ α) A vI 15 [(0, .ref (α 0)), (1, .int x1), (2, .int x2), (3, .int x3)] [] σ (f_X3_reap_15 n x1 x2 x3 σ) := by
  intro n
  induction n with
  | zero => intros; exact r_none
  | succ n ih =>
    intro x1 x2 x3 σ
    rw [f_X3_reap_15]
    refine r_iload_n X (j := 3) dX3_reap_15 rfl rfl ?_
    refine r_bipush X (v := 16) dX3_reap_16 (by decide) ?_
    refine r_icmp_ge X (tgt := 103) dX3_reap_18 (by decide) (fun _ => ?_) (fun _ => ?_)
    · refine r_iload_n X (j := 2) dX3_reap_103 rfl rfl ?_
      refine r_if_ne X (tgt := 112) dX3_reap_104 (by decide) (fun _ => ?_) (fun _ => ?_)
      · refine r_bipush X (v := (-6)) dX3_reap_107 (by decide) ?_
        refine r_goto X (tgt := 114) dX3_reap_109 (by decide) ?_
        exact r_ireturn X dX3_reap_114
      · refine r_bipush X (v := (-7)) dX3_reap_112 (by decide) ?_
        exact r_ireturn X dX3_reap_114
    · refine r_aload_n X (j := 0) dX3_reap_21 rfl rfl ?_
      refine r_get X (ci := 3) (q0 := 0) (v := .ref (α 6)) inX3 rfl rfl 5 (by decide) rfl fl_X3_26 dX3_reap_22 ?_
      refine r_iload_n X (j := 3) dX3_reap_25 rfl rfl ?_
      refine r_iald X (q0 := 6) (t0 := 0) (kk := 6) rfl rfl dX3_reap_26 ?_
      refine r_if_eq X (tgt := 44) dX3_reap_27 (by decide) (fun _ => ?_) (fun _ => ?_)
      · refine r_iconst X (v := 0) dX3_reap_44 (by decide) ?_
        refine r_istore X (lv' := [(4, .int 0), (0, .ref (α 0)), (1, .int x1), (2, .int x2), (3, .int x3)]) dX3_reap_45 (by decide) rfl ?_
        refine r_iload X (j := 0) dX3_reap_47 rfl ?_
        refine r_t (by decide) (r_if_eq X (tgt := 84) (k2 := none) dX3_reap_49 (by decide) (fun _ => ?_) (fun _ => r_none))
        refine r_iload_n X (j := 3) dX3_reap_84 rfl rfl ?_
        refine r_iload X (j := 0) dX3_reap_85 rfl ?_
        refine r_t (by decide) (r_if_eq X (tgt := 94) (k2 := none) dX3_reap_87 (by decide) (fun _ => ?_) (fun _ => r_none))
        refine r_iconst X (v := 0) dX3_reap_94 (by decide) ?_
        refine r_iadd X dX3_reap_95 ?_
        refine r_istore_n X (lv' := [(2, .int (x2 + 0)), (4, .int 0), (0, .ref (α 0)), (1, .int x1), (3, .int x3)]) dX3_reap_96 rfl (by decide) rfl ?_
        refine r_iinc X (j := 4) (v := (x3 + 1)) (lv' := [(3, .int (x3 + 1)), (2, .int (x2 + 0)), (4, .int 0), (0, .ref (α 0)), (1, .int x1)]) dX3_reap_97 rfl rfl (by decide) rfl ?_
        refine r_goto X (tgt := 15) dX3_reap_100 (by decide) ?_
        refine r_sub (lv' := [(0, .ref (α 0)), (1, .int x1), (2, .int (x2 + 0)), (3, .int (x3 + 1))]) [3, 4, 1, 0] rfl ?_
        exact ih x1 (x2 + 0) (x3 + 1) σ
      · refine r_aload_n X (j := 0) dX3_reap_30 rfl rfl ?_
        refine r_get X (ci := 3) (q0 := 0) (v := .ref (α 8)) inX3 rfl rfl 7 (by decide) rfl fl_X3_32 dX3_reap_31 ?_
        refine r_iload_n X (j := 3) dX3_reap_34 rfl rfl ?_
        refine r_iald X (q0 := 8) (t0 := 0) (kk := 8) rfl rfl dX3_reap_35 ?_
        refine r_iload_n X (j := 1) dX3_reap_36 rfl rfl ?_
        refine r_icmp_ne X (tgt := 44) dX3_reap_37 (by decide) (fun _ => ?_) (fun _ => ?_)
        · refine r_iconst X (v := 1) dX3_reap_40 (by decide) ?_
          refine r_goto X (tgt := 45) dX3_reap_41 (by decide) ?_
          refine r_istore X (lv' := [(4, .int 1), (0, .ref (α 0)), (1, .int x1), (2, .int x2), (3, .int x3)]) dX3_reap_45 (by decide) rfl ?_
          refine r_iload X (j := 0) dX3_reap_47 rfl ?_
          refine r_f (by decide) (r_if_eq X (tgt := 84) (k1 := none) dX3_reap_49 (by decide) (fun _ => r_none) (fun _ => ?_))
          refine r_aload_n X (j := 1) dX3_reap_52 rfl rfl ?_
          refine r_get X (ci := 3) (q0 := 0) (v := .ref (α 6)) inX3 rfl rfl 5 (by decide) rfl fl_X3_26 dX3_reap_53 ?_
          refine r_iload_n X (j := 4) dX3_reap_56 rfl rfl ?_
          refine r_iald X (q0 := 6) (t0 := 0) (kk := 6) rfl rfl dX3_reap_57 ?_
          refine r_iconst X (v := 2) dX3_reap_58 (by decide) ?_
          refine r_icmp_ne X (tgt := 84) dX3_reap_59 (by decide) (fun _ => ?_) (fun _ => ?_)
          · refine r_aload_n X (j := 1) dX3_reap_62 rfl rfl ?_
            refine r_iload_n X (j := 4) dX3_reap_63 rfl rfl ?_
            refine r_callVv X (q0 := 0) (ci := 3) (n := 1) (As := [.int x3]) (st := []) (c_X3_vanish l D cI cZ α A hJ x3 σ) ml_X3_128 im_X3_vanish se_X3_vanish ii_X3 co_X3_vanish (by decide +kernel) ⟨Nat.le_of_ble_eq_true rfl, Nat.le_of_ble_eq_true rfl⟩ rfl rfl rfl rfl (Nat.le_of_ble_eq_true rfl) dX3_reap_64 (fun r_64 σ_64 hc_64 => ?_)
            refine r_sipush X (v := 256) dX3_reap_67 (by decide) ?_
            refine r_iload_n X (j := 4) dX3_reap_70 rfl rfl ?_
            refine r_imul X dX3_reap_71 ?_
            refine r_aload_n X (j := 1) dX3_reap_72 rfl rfl ?_
            refine r_get X (ci := 3) (q0 := 0) (v := .ref (α 9)) inX3 rfl rfl 8 (by decide) rfl fl_X3_35 dX3_reap_73 ?_
            refine r_iload_n X (j := 4) dX3_reap_76 rfl rfl ?_
            refine r_iald X (q0 := 9) (t0 := 0) (kk := 9) rfl rfl dX3_reap_77 ?_
            refine r_sipush X (v := 255) dX3_reap_78 (by decide) ?_
            refine r_iand X dX3_reap_81 ?_
            refine r_iadd X dX3_reap_82 ?_
            exact r_ireturn X dX3_reap_83
          · refine r_iload_n X (j := 3) dX3_reap_84 rfl rfl ?_
            refine r_iload X (j := 0) dX3_reap_85 rfl ?_
            refine r_f (by decide) (r_if_eq X (tgt := 94) (k1 := none) dX3_reap_87 (by decide) (fun _ => r_none) (fun _ => ?_))
            refine r_iconst X (v := 1) dX3_reap_90 (by decide) ?_
            refine r_goto X (tgt := 95) dX3_reap_91 (by decide) ?_
            refine r_iadd X dX3_reap_95 ?_
            refine r_istore_n X (lv' := [(2, .int (x2 + 1)), (4, .int 1), (0, .ref (α 0)), (1, .int x1), (3, .int x3)]) dX3_reap_96 rfl (by decide) rfl ?_
            refine r_iinc X (j := 4) (v := (x3 + 1)) (lv' := [(3, .int (x3 + 1)), (2, .int (x2 + 1)), (4, .int 1), (0, .ref (α 0)), (1, .int x1)]) dX3_reap_97 rfl rfl (by decide) rfl ?_
            refine r_goto X (tgt := 15) dX3_reap_100 (by decide) ?_
            refine r_sub (lv' := [(0, .ref (α 0)), (1, .int x1), (2, .int (x2 + 1)), (3, .int (x3 + 1))]) [3, 4, 1, 0] rfl ?_
            exact ih x1 (x2 + 1) (x3 + 1) σ
        · refine r_iconst X (v := 0) dX3_reap_44 (by decide) ?_
          refine r_istore X (lv' := [(4, .int 0), (0, .ref (α 0)), (1, .int x1), (2, .int x2), (3, .int x3)]) dX3_reap_45 (by decide) rfl ?_
          refine r_iload X (j := 0) dX3_reap_47 rfl ?_
          refine r_t (by decide) (r_if_eq X (tgt := 84) (k2 := none) dX3_reap_49 (by decide) (fun _ => ?_) (fun _ => r_none))
          refine r_iload_n X (j := 3) dX3_reap_84 rfl rfl ?_
          refine r_iload X (j := 0) dX3_reap_85 rfl ?_
          refine r_t (by decide) (r_if_eq X (tgt := 94) (k2 := none) dX3_reap_87 (by decide) (fun _ => ?_) (fun _ => r_none))
          refine r_iconst X (v := 0) dX3_reap_94 (by decide) ?_
          refine r_iadd X dX3_reap_95 ?_
          refine r_istore_n X (lv' := [(2, .int (x2 + 0)), (4, .int 0), (0, .ref (α 0)), (1, .int x1), (3, .int x3)]) dX3_reap_96 rfl (by decide) rfl ?_
          refine r_iinc X (j := 4) (v := (x3 + 1)) (lv' := [(3, .int (x3 + 1)), (2, .int (x2 + 0)), (4, .int 0), (0, .ref (α 0)), (1, .int x1)]) dX3_reap_97 rfl rfl (by decide) rfl ?_
          refine r_goto X (tgt := 15) dX3_reap_100 (by decide) ?_
          refine r_sub (lv' := [(0, .ref (α 0)), (1, .int x1), (2, .int (x2 + 0)), (3, .int (x3 + 1))]) [3, 4, 1, 0] rfl ?_
          exact ih x1 (x2 + 0) (x3 + 1) σ
set_option maxRecDepth 100000 in
set_option maxHeartbeats 4000000 in
theorem c_X3_reap (l : Launch) (D : va_G) (cI cZ : ClassId) (α : Nat → Nat) (A : Nat → Prop) (hJ : ∀ σ, va_D A ((kwM cI cZ α) σ)) (x1 : Int32) (σ : KS) : Ct l D (tyA cI cZ) (kwM cI cZ α) A yX3_reap cX3_reap 5 (some .int) 3 vI [.ref (α 0), .int x1] σ (m_X3_reap x1 σ) := by
  refine Ct.of (own := RX3) hJ (by decide) rfl (Nat.le_of_ble_eq_true rfl) ?_
  intro p e s m args below meth c X
  refine r_sub (lv' := [(0, .ref (α 0)), (1, .int x1)]) [0, 1] rfl ?_
  unfold m_X3_reap
  refine r_aload_n X (j := 0) dX3_reap_0 rfl rfl ?_
  refine r_iload_n X (j := 1) dX3_reap_1 rfl rfl ?_
  refine r_callVi X (q0 := 0) (ci := 3) (n := 1) (As := [.int x1]) (st := []) (c_X3_isLive l D cI cZ α A hJ x1 σ) ml_X3_100 im_X3_isLive se_X3_isLive ii_X3 co_X3_isLive (by decide +kernel) ⟨Nat.le_of_ble_eq_true rfl, Nat.le_of_ble_eq_true rfl⟩ rfl rfl rfl rfl (Nat.le_of_ble_eq_true rfl) dX3_reap_2 (fun r_2 σ_2 hc_2 => ?_)
  refine r_if_ne X (tgt := 11) dX3_reap_5 (by decide) (fun _ => ?_) (fun _ => ?_)
  · refine r_bipush X (v := (-2)) dX3_reap_8 (by decide) ?_
    exact r_ireturn X dX3_reap_10
  · refine r_iconst X (v := 0) dX3_reap_11 (by decide) ?_
    refine r_istore_n X (lv' := [(2, .int 0), (0, .ref (α 0)), (1, .int x1)]) dX3_reap_12 rfl (by decide) rfl ?_
    refine r_iconst X (v := 0) dX3_reap_13 (by decide) ?_
    refine r_istore_n X (lv' := [(3, .int 0), (2, .int 0), (0, .ref (α 0)), (1, .int x1)]) dX3_reap_14 rfl (by decide) rfl ?_
    refine r_sub (lv' := [(0, .ref (α 0)), (1, .int x1), (2, .int 0), (3, .int 0)]) [2, 3, 1, 0] rfl ?_
    exact cl_X3_reap_15 l D cI cZ α A hJ X FU x1 0 0 σ_2
set_option maxRecDepth 100000 in
set_option maxHeartbeats 4000000 in
theorem c_X3_spawn (l : Launch) (D : va_G) (cI cZ : ClassId) (α : Nat → Nat) (A : Nat → Prop) (hJ : ∀ σ, va_D A ((kwM cI cZ α) σ)) (σ : KS) : Ct l D (tyA cI cZ) (kwM cI cZ α) A yX3_spawn cX3_spawn 3 (some .int) 3 vI [.ref (α 0)] σ (m_X3_spawn σ) := by
  refine Ct.of (own := RX3) hJ (by decide) rfl (Nat.le_of_ble_eq_true rfl) ?_
  intro p e s m args below meth c X
  refine r_sub (lv' := [(0, .ref (α 0))]) [0] rfl ?_
  unfold m_X3_spawn
  refine r_aload_n X (j := 0) dX3_spawn_0 rfl rfl ?_
  refine r_callVi X (q0 := 0) (ci := 3) (n := 0) (As := []) (st := []) (c_X3_unusedNumber l D cI cZ α A hJ σ) ml_X3_83 im_X3_unusedNumber se_X3_unusedNumber ii_X3 co_X3_unusedNumber (by decide +kernel) ⟨Nat.le_of_ble_eq_true rfl, Nat.le_of_ble_eq_true rfl⟩ rfl rfl rfl rfl (Nat.le_of_ble_eq_true rfl) dX3_spawn_1 (fun r_1 σ_1 hc_1 => ?_)
  refine r_istore_n X (lv' := [(1, .int r_1), (0, .ref (α 0))]) dX3_spawn_4 rfl (by decide) rfl ?_
  refine r_iload_n X (j := 0) dX3_spawn_5 rfl rfl ?_
  refine r_if_ge X (tgt := 12) dX3_spawn_6 (by decide) (fun _ => ?_) (fun _ => ?_)
  · refine r_aload_n X (j := 1) dX3_spawn_12 rfl rfl ?_
    refine r_callVv X (q0 := 0) (ci := 3) (n := 0) (As := []) (st := []) (c_X3_layAside l D cI cZ α A hJ σ_1) ml_X3_87 im_X3_layAside se_X3_layAside ii_X3 co_X3_layAside (by decide +kernel) ⟨Nat.le_of_ble_eq_true rfl, Nat.le_of_ble_eq_true rfl⟩ rfl rfl rfl rfl (Nat.le_of_ble_eq_true rfl) dX3_spawn_13 (fun r_13 σ_13 hc_13 => ?_)
    refine r_aload_n X (j := 1) dX3_spawn_16 rfl rfl ?_
    refine r_iconst X (v := 1) dX3_spawn_17 (by decide) ?_
    refine r_callVi X (q0 := 0) (ci := 3) (n := 1) (As := [.int 1]) (st := []) (c_X3_takeSmall l D cI cZ α A hJ 1 σ_13) ml_X3_90 im_X3_takeSmall se_X3_takeSmall ii_X3 co_X3_takeSmall (by decide +kernel) ⟨Nat.le_of_ble_eq_true rfl, Nat.le_of_ble_eq_true rfl⟩ rfl rfl rfl rfl (Nat.le_of_ble_eq_true rfl) dX3_spawn_18 (fun r_18 σ_18 hc_18 => ?_)
    refine r_istore_n X (lv' := [(2, .int r_18), (1, .int r_1), (0, .ref (α 0))]) dX3_spawn_21 rfl (by decide) rfl ?_
    refine r_iload_n X (j := 0) dX3_spawn_22 rfl rfl ?_
    refine r_if_ge X (tgt := 31) dX3_spawn_23 (by decide) (fun _ => ?_) (fun _ => ?_)
    · refine r_aload_n X (j := 2) dX3_spawn_31 rfl rfl ?_
      refine r_iload_n X (j := 1) dX3_spawn_32 rfl rfl ?_
      refine r_iload_n X (j := 0) dX3_spawn_33 rfl rfl ?_
      refine r_iconst X (v := (-1)) dX3_spawn_34 (by decide) ?_
      refine r_callVv X (q0 := 0) (ci := 3) (n := 3) (As := [.int r_1, .int r_18, .int (-1)]) (st := []) (c_X3_begin l D cI cZ α A hJ r_1 r_18 (-1) σ_18) ml_X3_96 im_X3_begin se_X3_begin ii_X3 co_X3_begin (by decide +kernel) ⟨Nat.le_of_ble_eq_true rfl, Nat.le_of_ble_eq_true rfl⟩ rfl rfl rfl rfl (Nat.le_of_ble_eq_true rfl) dX3_spawn_35 (fun r_35 σ_35 hc_35 => ?_)
      refine r_iload_n X (j := 1) dX3_spawn_38 rfl rfl ?_
      exact r_ireturn X dX3_spawn_39
    · refine r_aload_n X (j := 2) dX3_spawn_26 rfl rfl ?_
      refine r_callVi X (q0 := 0) (ci := 3) (n := 0) (As := []) (st := []) (c_X3_fail l D cI cZ α A hJ σ_18) ml_X3_93 im_X3_fail se_X3_fail ii_X3 co_X3_fail (by decide +kernel) ⟨Nat.le_of_ble_eq_true rfl, Nat.le_of_ble_eq_true rfl⟩ rfl rfl rfl rfl (Nat.le_of_ble_eq_true rfl) dX3_spawn_27 (fun r_27 σ_27 hc_27 => ?_)
      exact r_ireturn X dX3_spawn_30
  · refine r_bipush X (v := (-4)) dX3_spawn_9 (by decide) ?_
    exact r_ireturn X dX3_spawn_11
end
section
/-! constructors: rows over a world that grows -/
def CI (p : Program) (s : State) (m : MethodId) (args : Array Value) (meth : Method) (c : Code) (cc : ByteArray) (nL : Nat) (own : String) (D : va_G) (cI cZ : ClassId) (A : Nat → Prop) : Prop :=
  CallFix p m c cc nL s args wA own ∧ va_K D vwCl (tyA cI cZ) s ∧ (∀ q : Nat, s.heap.size ≤ q → A q) ∧ meth.name = "<init>" ∧ meth.locks = false ∧ meth.sig.returnType = none
def Cc (p : Program) (l : Launch) (e : Env) (R : Room) (s : State) (m : MethodId) (args : Array Value) (below : List Frame) (meth : Method) (c : Code) (nL : Nat) (D : va_G) (A : Nat → Prop) (Q : State → Prop) (pc : Nat) (lv : List (Nat × Value)) (st : List Value) (ws : va_W) (cells slots : Nat) : Prop :=
  ∀ (ls : Array Slot) (H : Heap) (locs : List Loc), lv_has ls nL lv → va_P D vwCl ws H → va_D A ws → va_S A s.heap H locs → W p l e R s m args below meth c H locs cells slots Q (F0 m pc ls st)
section CTR
variable {p : Program} {l : Launch} {e : Env} {R : Room} {s : State} {m : MethodId} {args : Array Value} {below : List Frame} {meth : Method} {c : Code} {cc : ByteArray} {nL : Nat} {own : String} {D : va_G} {cI cZ : ClassId} {A : Nat → Prop} {Q : State → Prop}
variable {pc : Nat} {lv : List (Nat × Value)} {st : List Value} {ws : va_W} {cells slots : Nat}
theorem k_aload_n (X : CI p s m args meth c cc nL own D cI cZ A) {i j x : Nat} {kk : Fin 4} (hdg : decode cc pc = .ok (.aload_n kk, 1)) (hi : (kk : Nat) = i) (hj : lv[j]? = some (i, .ref x)) (h : Cc p l e R s m args below meth c nL D A Q (pc + 1) lv (.ref x :: st) ws cells slots) : Cc p l e R s m args below meth c nL D A Q pc lv (st) ws cells slots :=
  fun ls H locs hl hP hD hS => lv_aload_n X.1.1 X.1.2.1 hdg hi (lv_at hl j hj) (h ls H locs hl hP hD hS)
theorem k_iload_n (X : CI p s m args meth c cc nL own D cI cZ A) {i j : Nat} {x : Int32} {kk : Fin 4} (hdg : decode cc pc = .ok (.iload_n kk, 1)) (hi : (kk : Nat) = i) (hj : lv[j]? = some (i, .int x)) (h : Cc p l e R s m args below meth c nL D A Q (pc + 1) lv (.int x :: st) ws cells slots) : Cc p l e R s m args below meth c nL D A Q pc lv (st) ws cells slots :=
  fun ls H locs hl hP hD hS => lv_iload_n X.1.1 X.1.2.1 hdg hi (lv_at hl j hj) (h ls H locs hl hP hD hS)
theorem k_iconst (X : CI p s m args meth c cc nL own D cI cZ A) {n : Int} {v : Int32} (hdg : decode cc pc = .ok (.iconst n, 1)) (hv : Int32.ofInt n = v) (h : Cc p l e R s m args below meth c nL D A Q (pc + 1) lv (.int v :: st) ws cells slots) : Cc p l e R s m args below meth c nL D A Q pc lv (st) ws cells slots :=
  fun ls H locs hl hP hD hS => lv_iconst X.1.1 X.1.2.1 hdg hv (h ls H locs hl hP hD hS)
theorem k_bipush (X : CI p s m args meth c cc nL own D cI cZ A) {n : Int} {v : Int32} (hdg : decode cc pc = .ok (.bipush n, 2)) (hv : (Int8.ofInt n).toInt32 = v) (h : Cc p l e R s m args below meth c nL D A Q (pc + 2) lv (.int v :: st) ws cells slots) : Cc p l e R s m args below meth c nL D A Q pc lv (st) ws cells slots :=
  fun ls H locs hl hP hD hS => lv_bipush X.1.1 X.1.2.1 hdg hv (h ls H locs hl hP hD hS)
theorem k_sipush (X : CI p s m args meth c cc nL own D cI cZ A) {n : Int} {v : Int32} (hdg : decode cc pc = .ok (.sipush n, 3)) (hv : (Int16.ofInt n).toInt32 = v) (h : Cc p l e R s m args below meth c nL D A Q (pc + 3) lv (.int v :: st) ws cells slots) : Cc p l e R s m args below meth c nL D A Q pc lv (st) ws cells slots :=
  fun ls H locs hl hP hD hS => lv_sipush X.1.1 X.1.2.1 hdg hv (h ls H locs hl hP hD hS)
theorem k_dup (X : CI p s m args meth c cc nL own D cI cZ A) {v : Value} (hdg : decode cc pc = .ok (.dup, 1)) (hv : v.category = 1) (h : Cc p l e R s m args below meth c nL D A Q (pc + 1) lv (v :: v :: st) ws cells slots) : Cc p l e R s m args below meth c nL D A Q pc lv (v :: st) ws cells slots :=
  fun ls H locs hl hP hD hS => lv_dup X.1.1 X.1.2.1 hdg hv (h ls H locs hl hP hD hS)
theorem k_goto (X : CI p s m args meth c cc nL own D cI cZ A) {off : Int} {tgt : Nat} (hdg : decode cc pc = .ok (.goto off, 3)) (ht : (pc : Int) + off = (tgt : Int)) (h : Cc p l e R s m args below meth c nL D A Q (tgt) lv (st) ws cells slots) : Cc p l e R s m args below meth c nL D A Q pc lv (st) ws cells slots :=
  fun ls H locs hl hP hD hS => lv_goto X.1.1 X.1.2.1 hdg ht (h ls H locs hl hP hD hS)
theorem k_istore_n (X : CI p s m args meth c cc nL own D cI cZ A) {lv' : List (Nat × Value)} {i : Nat} {x : Int32} {kk : Fin 4} (hdg : decode cc pc = .ok (.istore_n kk, 1)) (hi : (kk : Nat) = i) (hn : i < nL) (hl9 : (i, Value.int x) :: lv.filter (fun q => !(q.1 == i) && !(q.1 + 1 == i && q.2.category == 2)) = lv') (h : Cc p l e R s m args below meth c nL D A Q (pc + 1) lv' st ws cells slots) : Cc p l e R s m args below meth c nL D A Q pc lv (.int x :: st) ws cells slots :=
  fun ls H locs hl hP hD hS => lv_istore_n X.1.1 X.1.2.1 hdg hi hl hn hl9 (fun ls' hl' => h ls' H locs hl' hP hD hS)
theorem k_iinc (X : CI p s m args meth c cc nL own D cI cZ A) {lv' : List (Nat × Value)} {i j : Nat} {n : Int} {x v : Int32} (hdg : decode cc pc = .ok (.iinc i n, 3)) (hj : lv[j]? = some (i, .int x)) (hv : x + Int32.ofInt n = v) (hn : i < nL) (hl9 : (i, Value.int v) :: lv.filter (fun q => !(q.1 == i) && !(q.1 + 1 == i && q.2.category == 2)) = lv') (h : Cc p l e R s m args below meth c nL D A Q (pc + 3) lv' st ws cells slots) : Cc p l e R s m args below meth c nL D A Q pc lv st ws cells slots :=
  fun ls H locs hl hP hD hS => lv_iinc X.1.1 X.1.2.1 hdg hl hj hv hn hl9 (fun ls' hl' => h ls' H locs hl' hP hD hS)
theorem k_icmp_ge (X : CI p s m args meth c cc nL own D cI cZ A) {x y : Int32} {off : Int} {tgt : Nat} (hdg : decode cc pc = .ok (.if_icmp .ge off, 3)) (ht : (pc : Int) + off = (tgt : Int)) (h1 : y ≤ x → Cc p l e R s m args below meth c nL D A Q tgt lv st ws cells slots) (h2 : ¬ y ≤ x → Cc p l e R s m args below meth c nL D A Q (pc + 3) lv st ws cells slots) : Cc p l e R s m args below meth c nL D A Q pc lv (.int y :: .int x :: st) ws cells slots :=
  fun ls H locs hl hP hD hS => lv_icmp_ge X.1.1 X.1.2.1 hdg ht (fun q => h1 q ls H locs hl hP hD hS) (fun q => h2 q ls H locs hl hP hD hS)
theorem k_sub (ks : List Nat) {lv' : List (Nat × Value)} (hl : lv_pick lv ks = lv') (h : Cc p l e R s m args below meth c nL D A Q pc lv' st ws cells slots) : Cc p l e R s m args below meth c nL D A Q pc lv st ws cells slots :=
  fun ls H locs hl0 hP hD hS => h ls H locs (lv_sub hl0 ks hl) hP hD hS
theorem k_ord (is : List Nat) {ws' : va_W} (h1 : is.map (fun i => ws[i]?) = ws'.map some) (hn : va_nd is = true) (h : Cc p l e R s m args below meth c nL D A Q pc lv st ws' cells slots) : Cc p l e R s m args below meth c nL D A Q pc lv st ws cells slots :=
  fun ls H locs hl hP hD hS => h ls H locs hl (hP.sub is (by
    have : (is.map (fun i => ws[i]?)).filterMap id = (ws'.map some).filterMap id := by rw [h1]
    rw [List.filterMap_map, List.filterMap_map] at this
    have e : ws'.filterMap (id ∘ some) = ws' := List.filterMap_some
    rw [e] at this
    exact this)) (hD.sub is hn h1) hS
theorem k_get (X : CI p s m args meth c cc nL own D cI cZ A) {C : String} {T : u_T} {N ci ix a q0 : Nat} {fs : List Value} {v : Value} (hin : ∀ w ∈ u_ws C T N, w ∈ wA) (hc : vwCl[ci]? = some (C, T, N)) (hq : ws[q0]? = some (a, .inr (ci, fs))) (kk : Nat) (hk0 : kk < N) (hv : fs[kk]? = some v) (hm : Cond.fieldLink own ix (T kk).1 (T kk).2.1 (T kk).2.2.1 ∈ wA) (hdg : decode cc pc = .ok (.getfield ix, 3)) (h : Cc p l e R s m args below meth c nL D A Q (pc + 3) lv (v :: st) ws cells slots) : Cc p l e R s m args below meth c nL D A Q pc lv (.ref a :: st) ws cells slots :=
  fun ls H locs hl hP hD hS => va_get X.1.1 X.1.2.1 X.1.2.2.2.2 hin X.1.2.2.2.1 X.2.1 hP q0 hq hc kk hk0 (X.1.2.2.2.2 _ hm) (fun _ h9 => h9) hv hdg (h ls H locs hl hP hD hS)
theorem k_putF (X : CI p s m args meth c cc nL own D cI cZ A) {C : String} {T : u_T} {N ci ix a q0 x : Nat} {fs : List Value} {ty0 : Nat → FieldType} {ty : FieldType} {ws' : va_W} (hin : ∀ w ∈ u_ws C T N, w ∈ wA) (hc : vwCl[ci]? = some (C, T, N)) (hty : ∀ k, k < N → parseFieldDescriptor (T k).2.2.1 = some (ty0 k)) (hnm : ∀ a, a < N → ∀ b, b < N → a ≠ b → (T a).2.1 ≠ (T b).2.1) (hq : ws[q0]? = some (a, .inr (ci, fs))) (kk : Nat) (hk0 : kk < N) (hs : ws.set q0 (a, .inr (ci, fs.set kk (.ref x))) = ws') (hm : Cond.fieldLink own ix (T kk).1 (T kk).2.1 (T kk).2.2.1 ∈ wA) (hfin : (T kk).2.2.2 = true) (hdecl : (T kk).1 = own) (hd : parseFieldDescriptor (T kk).2.2.1 = some ty) (hn : narrow ty (.ref x) = .ref x) (hfit : fits ty (.ref x) = true) (hlen : kk < fs.length) (hdg : decode cc pc = .ok (.putfield ix, 3)) (h : Cc p l e R s m args below meth c nL D A Q (pc + 3) lv st ws' cells slots) : Cc p l e R s m args below meth c nL D A Q pc lv (.ref x :: .ref a :: st) ws cells slots :=
  fun ls H locs hl hP hD hS => va_putF X.1.1 X.1.2.1 X.1.2.2.2.2 hin ty0 hty hnm X.1.2.2.2.1 X.2.1 hP hD hS q0 hq hc kk hk0 (X.1.2.2.2.2 _ hm) (fun _ h9 => h9) hfin X.2.2.2.1 hdecl hd hn hfit hlen hdg (fun H1 locs1 hP1 hD1 hS1 => h ls H1 locs1 hl (hs ▸ hP1) (hs ▸ hD1) hS1)
theorem k_iast (X : CI p s m args meth c cc nL own D cI cZ A) {a q0 n : Nat} {f : Nat → Int32} {i x : Int32} {ws' : va_W} (hq : ws[q0]? = some (a, .inl (cI, n, .inl f))) (hi : vp_in i n) (hs : ws.set q0 (a, .inl (cI, n, .inl (upd f i.toNatClampNeg x))) = ws') (hdg : decode cc pc = .ok (.iastore, 1)) (h : Cc p l e R s m args below meth c nL D A Q (pc + 1) lv st ws' cells slots) : Cc p l e R s m args below meth c nL D A Q pc lv (.int x :: .int i :: .ref a :: st) ws cells slots :=
  fun ls H locs hl hP hD hS => va_iast X.1.1 X.1.2.1 X.2.1 hP hD hS q0 0 hq rfl hi hdg (fun H1 locs1 hP1 hD1 hS1 => h ls H1 locs1 hl (hs ▸ hP1) (hs ▸ hD1) hS1)
theorem k_zast (X : CI p s m args meth c cc nL own D cI cZ A) {a q0 n : Nat} {f : Nat → Int32} {i x : Int32} {ws' : va_W} (hq : ws[q0]? = some (a, .inl (cZ, n, .inl f))) (hi : vp_in i n) (hx : x = 0 ∨ x = 1) (hs : ws.set q0 (a, .inl (cZ, n, .inl (upd f i.toNatClampNeg x))) = ws') (hdg : decode cc pc = .ok (.bastore, 1)) (h : Cc p l e R s m args below meth c nL D A Q (pc + 1) lv st ws' cells slots) : Cc p l e R s m args below meth c nL D A Q pc lv (.int x :: .int i :: .ref a :: st) ws cells slots :=
  fun ls H locs hl hP hD hS => va_zast X.1.1 X.1.2.1 X.2.1 hP hD hS q0 1 hq rfl hi hdg (fun H1 locs1 hP1 hD1 hS1 => h ls H1 locs1 hl (by rw [zn hx] at hP1; exact hs ▸ hP1) (by rw [zn hx] at hD1; exact hs ▸ hD1) hS1)
theorem k_newI (X : CI p s m args meth c cc nL own D cI cZ A) {n : Int32} {N : Nat} (hdg : decode cc pc = .ok (.newarray .int, 2)) (hn : ¬ n < 0) (hN : n.toNatClampNeg = N) (hb : N * 4 ≤ 536870912) (hc : cells + 1 ≤ R.cells) (hs : slots + N ≤ R.slots) (h : ∀ q, Cc p l e R s m args below meth c nL D A Q (pc + 2) lv (.ref q :: st) (ws ++ [(q, .inl (cI, N, .inl (fun _ => 0)))]) (cells + 1) (slots + N)) : Cc p l e R s m args below meth c nL D A Q pc lv (.int n :: st) ws cells slots := by
  intro ls H locs hl hP hD hS
  refine va_newa (atype := .int) (a0 := (N, .inl (fun _ => 0))) (ty := .int) X.1.1 X.1.2.1 (X.1.2.2.2.2 _ ac_int) rfl X.2.1 hP hD hS X.2.2.1 (fun _ => rfl) hn hN hb hc hs hdg (fun q cA H1 hK1 hP1 hD1 hS1 => ?_)
  have e1 : s.vm.findClass "[I" = some cA := (hK1.2 2 _ rfl).2
  have e2 : s.vm.findClass "[I" = some cI := (hK1.2 0 _ rfl).2
  rw [e1] at e2
  cases e2
  exact h q ls H1 locs hl hP1 hD1 hS1
theorem k_newZ (X : CI p s m args meth c cc nL own D cI cZ A) {n : Int32} {N : Nat} (hdg : decode cc pc = .ok (.newarray .boolean, 2)) (hn : ¬ n < 0) (hN : n.toNatClampNeg = N) (hb : N * 1 ≤ 536870912) (hc : cells + 1 ≤ R.cells) (hs : slots + N ≤ R.slots) (h : ∀ q, Cc p l e R s m args below meth c nL D A Q (pc + 2) lv (.ref q :: st) (ws ++ [(q, .inl (cZ, N, .inl (fun _ => 0)))]) (cells + 1) (slots + N)) : Cc p l e R s m args below meth c nL D A Q pc lv (.int n :: st) ws cells slots := by
  intro ls H locs hl hP hD hS
  refine va_newa (atype := .boolean) (a0 := (N, .inl (fun _ => 0))) (ty := .boolean) X.1.1 X.1.2.1 (X.1.2.2.2.2 _ ac_boolean) rfl X.2.1 hP hD hS X.2.2.1 (fun _ => rfl) hn hN hb hc hs hdg (fun q cA H1 hK1 hP1 hD1 hS1 => ?_)
  have e1 : s.vm.findClass "[Z" = some cA := (hK1.2 2 _ rfl).2
  have e2 : s.vm.findClass "[Z" = some cZ := (hK1.2 1 _ rfl).2
  rw [e1] at e2
  cases e2
  exact h q ls H1 locs hl hP1 hD1 hS1
theorem k_new (X : CI p s m args meth c cc nL own D cI cZ A) {C : String} {T : u_T} {N ci ix : Nat} {ty0 : Nat → FieldType} {fs : List Value} (hin : ∀ w ∈ u_ws C T N, w ∈ wA) (hc : vwCl[ci]? = some (C, T, N)) (hty : ∀ k, k < N → parseFieldDescriptor (T k).2.2.1 = some (ty0 k)) (h1 : Cond.classLink own ix C ∈ wA) (h2 : Cond.instantiable C N ∈ wA) (h3 : Cond.initialized C ∈ wA) (hfs : ∀ j, j < N → defaultValue (ty0 j) = vp_V fs j) (hcc : cells + 1 ≤ R.cells) (hs : slots + N ≤ R.slots) (hdg : decode cc pc = .ok (.new ix, 3)) (h : ∀ q, Cc p l e R s m args below meth c nL D A Q (pc + 3) lv (.ref q :: st) (ws ++ [(q, .inr (ci, fs))]) (cells + 1) (slots + N)) : Cc p l e R s m args below meth c nL D A Q pc lv st ws cells slots :=
  fun ls H locs hl hP hD hS => va_new X.1.1 X.1.2.1 X.1.2.2.2.2 hin ty0 hty X.1.2.2.2.1 (X.1.2.2.2.2 _ h1) (X.1.2.2.2.2 _ h2) (X.1.2.2.2.2 _ h3) X.2.1 hP hD hS X.2.2.1 hc hfs hcc hs hdg (fun q H1 hP1 hD1 hS1 => h q ls H1 locs hl hP1 hD1 hS1)
theorem k_obj (X : CI p s m args meth c cc nL own D cI cZ A) {ix a : Nat} (hm : Cond.methodLink own ix objectInit ∈ wA) (hdg : decode cc pc = .ok (.invokespecial ix, 3)) (hf : 1 ≤ R.frames) (hL : 12 ≤ R.locals) (h : Cc p l e R s m args below meth c nL D A Q (pc + 3) lv [] ws cells slots) : Cc p l e R s m args below meth c nL D A Q pc lv [.ref a] ws cells slots :=
  fun ls H locs hl hP hD hS => W.objInit X.1.1 X.1.2.1 X.1.2.2.2.1 (X.1.2.2.2.2 _ hm) (X.1.2.2.2.2 _ im_objectInit) (X.1.2.2.2.2 _ co_objectInit) rfl (by rw [X.1.2.2.1]; exact hl.1) rfl hdg hf hL (h ls H locs hl hP hD hS)

abbrev kCp (D : va_G) (cI cZ : ClassId) (av : List Value) (sz : Nat) (wc : va_W) : Array Value → State → Prop := va_Pc av (fun U => U.heap.size = sz ∧ va_P D vwCl wc U.heap ∧ kE D (tyA cI cZ) U ∧ va_D (fun _ => True) wc)
abbrev kCq (D : va_G) {S : Type} (B : S → va_W) (sz : Nat) (wc : va_W) : Array Value → State → Outcome → State → Prop := va_Qv (fun _ : S => True) (fun u t => va_P D vwCl (B u) t.heap ∧ va_D (va_A wc sz) (B u)) (va_A wc sz)
theorem Cc.met {y : MethodName} {rm : Room} {mc ms sz : Nat} {wc : va_W} {av : List Value} {S : Type} {B : S → va_W} (hy : plainName y.cls = true) (hown : y.cls = own) (hnm : y.name = "<init>") (hn : (lg_sl av).length ≤ nL)
    (body : ∀ (p : Program) (e : Env) (s : State) (m : MethodId) (args : Array Value) (below : List Frame) (meth : Method) (c : Code), CI p s m args meth c cc nL own D cI cZ (va_A wc sz) → s.heap.size = sz → nst s → Cc p l e rm s m args below meth c nL D (va_A wc sz) (MQ below (kCq D B sz wc) args s mc ms (va_A wc sz)) 0 (lv_args 0 av) [] wc 0 0) :
    Met l y (wsM y cc nL none) rm (kCp D cI cZ av sz wc) (kCq D B sz wc) mc ms (va_A wc sz) := by
  subst hown
  refine Met.ofW (cc := cc) (maxL := nL) (ret := none) hy rfl ?_
  intro p e s m args below meth c s₁ Bd hml hv
  obtain ⟨rfl, hsz, hP, ⟨hK, hN⟩, hD0⟩ := hv
  have hts := atoms_spec (ws := wsM y cc nL none) Bd.pre
  have X : CI p s m av.toArray meth c cc nL y.cls D cI cZ (va_A wc sz) := ⟨⟨Bd.exec, Bd.bytes, hml, findClass_of_methodNamed Bd.named, fun w h => hts w (List.mem_cons_of_mem _ h)⟩, hK, fun q h => Or.inr (by rw [← hsz]; exact h), ((name_of_methodNamed Bd.named Bd.method).1).trans hnm, Bd.notSynchronized, Bd.returns⟩
  rw [lg_entry_eq]
  exact body p e s m av.toArray below meth c X hsz hN _ s.heap [] (lv_entry av hn) hP (hD0.self (sz := sz)) va_S.rf
theorem k_ret (X : CI p s m args meth c cc nL own D cI cZ A) {S : Type} {B : S → va_W} {sz : Nat} {wc : va_W} (hA : A = va_A wc sz) (u : S) (hB : B u = ws) (hdg : decode cc pc = .ok (.return_, 1)) : Cc p l e R s m args below meth c nL D A (MQ below (kCq D B sz wc) args s cells slots A) pc lv [] ws cells slots := by
  intro ls H locs hl hP hD hS
  subst hA
  subst hB
  exact W.vret X.1.1 X.1.2.1 X.2.2.2.2.2 (fun t ht hW => ⟨⟨u, rfl, trivial, by rw [ht]; exact hP, hD⟩, hS.F ht⟩) hS.2.2 hdg X.2.2.2.2.1
theorem k_ctor (X : CI p s m args meth c cc nL own D cI cZ A) (hN : nst s) {y : MethodName} {cy : ByteArray} {nLy ix n a mc ms : Nat} {rm : Room} {wc wr : va_W} {As stk : List Value} {S : Type} {B : S → va_W} (hM : ∀ sz, Met l y (wsM y cy nLy none) rm (kCp D cI cZ (.ref a :: As) sz wc) (kCq D B sz wc) mc ms (va_A wc sz)) (h1 : Cond.methodLink own ix y ∈ wA) (h2 : Cond.instanceMethod y ∈ wA) (h3 : Cond.initialized y.cls ∈ wA) (h4 : Cond.code y cy nLy none ∈ wA) (hy1 : y.name = "<init>")
    (hrc : rm.cells = mc) (hrs : rm.slots = ms) (hd : y.cls ≠ "java/lang/invoke/MethodHandle" ∧ y.cls ≠ "java/lang/invoke/VarHandle" ∧ (parseMethodDescriptor y.desc).map (fun d => d.parameters.length) = some n) (hR : rm.frames + 1 ≤ R.frames ∧ 8 + (nLy + 11) + rm.locals ≤ R.locals)
    (isC isR : List Nat) (hC : isC.map (fun i => ws[i]?) = wc.map some) (hRr : isR.map (fun i => ws[i]?) = wr.map some) (hndC : va_nd isC = true) (hnd : va_nd isR = true) (hdis : ∀ i ∈ isR, i ∉ isC) (hn : As.length = n) (hst : stk = As.reverse ++ .ref a :: st) (hroom : (st.map fun v => v.category).sum ≤ 8) (hdg : decode cc pc = .ok (.invokespecial ix, 3)) (hcell : cells + mc ≤ R.cells ∧ slots + ms ≤ R.slots)
    (h : ∀ u, Cc p l e R s m args below meth c nL D A Q (pc + 3) lv st (wr ++ B u) (cells + mc) (slots + ms)) : Cc p l e R s m args below meth c nL D A Q pc lv stk ws cells slots := by
  intro ls H locs hl hP hD hS
  have hf : ws.filterMap (fun x => some x) = ws := List.filterMap_some
  have hC' : isC.filterMap (fun i => ws[i]?) = wc := by
    have : (isC.map (fun i => ws[i]?)).filterMap id = (wc.map some).filterMap id := by rw [hC]
    rw [List.filterMap_map, List.filterMap_map] at this
    have e : wc.filterMap (id ∘ some) = wc := List.filterMap_some
    rw [e] at this
    exact this
  have hPc := hP.sub (ws' := wc) isC hC'
  have hDc := hD.sub (ws' := wc) isC hndC hC
  have hFc := va_free (wc := wc) hD hS X.2.2.1 isC hC
  refine va_callv (va_runI (As := As) (rest := st) X.1 (hM H.size) (cwI n X.1.2.2.2.2 (wsM_in h4) rfl hrc hrs (X.1.2.2.2.2 _ h3) (X.1.2.2.2.2 _ h1) (X.1.2.2.2.2 _ h2) hy1 hd hR) ⟨fun a U g mk q => by obtain ⟨q0, q1, qP, ⟨qK, qN⟩, qD⟩ := q; exact ⟨q0, q1, qP, ⟨va_K.moved (u := U) (U := U.calling g mk a) (Vm.Alike.refl U.vm) qK, nst.same (s := U) (U := U.calling g mk a) rfl qN⟩, qD⟩, fun U hU hW => ⟨rfl, by rw [hU], by rw [hU]; exact hPc, ⟨va_K.moved hW.alike X.2.1, nst.warm hW hN⟩, hDc.weaken (fun _ _ _ _ => trivial)⟩⟩ rfl hn hl.1 hst (lv_room hroom) hdg hcell) hS (fun q _ h => hFc q h) hFc (fun u t H1 locs1 ht hvm hw hB hz1 hk1 hS1 => ?_)
  obtain ⟨hP1, hD1⟩ := hB
  rw [ht] at hP1
  obtain ⟨hP2, hD2⟩ := va_join (wr := wr) (w1 := B u) hP hD isC isR hC hRr hnd hdis hk1 hFc hP1 hD1
  exact h u ls H1 locs1 hl hP2 hD2 hS1

end CTR
end
