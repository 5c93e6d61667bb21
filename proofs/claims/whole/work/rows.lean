section
-- ===== PART A: goes FIRST, ahead of the names: the tables' words, and 'selects' of the private methods out of them =====
/-- a private method of a class that the tables say can be made, by its rows of tables_1 -/
def lw_okq (q : MethodName × Nat) : Prop := (q.1.cls ≠ "java/lang/invoke/MethodHandle" ∧ q.1.cls ≠ "java/lang/invoke/VarHandle") ∧ Cond.instantiable q.1.cls q.2 ∈ tables_1 ∧ Cond.privateMethod q.1 ∈ tables_1 ∧ Cond.instanceMethod q.1 ∈ tables_1
theorem lw_p0 : lw_okq (⟨"NetworkOrders", "forgetOrders", "()V"⟩, 13) := ⟨⟨by decide +kernel, by decide +kernel⟩, List.mem_of_getElem? (i := 16) (by decide +kernel), List.mem_of_getElem? (i := 154) (by decide +kernel), List.mem_of_getElem? (i := 155) (by decide +kernel)⟩
theorem lw_p1 : lw_okq (⟨"NetworkOrders$Tensor", "makeNew", "(I)V"⟩, 5) := ⟨⟨by decide +kernel, by decide +kernel⟩, List.mem_of_getElem? (i := 25) (by decide +kernel), List.mem_of_getElem? (i := 205) (by decide +kernel), List.mem_of_getElem? (i := 206) (by decide +kernel)⟩
theorem lw_p2 : lw_okq (⟨"NetworkOrders", "isTensor", "(I)Z"⟩, 13) := ⟨⟨by decide +kernel, by decide +kernel⟩, List.mem_of_getElem? (i := 16) (by decide +kernel), List.mem_of_getElem? (i := 214) (by decide +kernel), List.mem_of_getElem? (i := 215) (by decide +kernel)⟩
theorem lw_p3 : lw_okq (⟨"NetworkOrders", "countUse", "(II)V"⟩, 13) := ⟨⟨by decide +kernel, by decide +kernel⟩, List.mem_of_getElem? (i := 16) (by decide +kernel), List.mem_of_getElem? (i := 218) (by decide +kernel), List.mem_of_getElem? (i := 219) (by decide +kernel)⟩
theorem lw_p4 : lw_okq (⟨"NetworkOrders$Tensor", "setName", "(II)V"⟩, 5) := ⟨⟨by decide +kernel, by decide +kernel⟩, List.mem_of_getElem? (i := 25) (by decide +kernel), List.mem_of_getElem? (i := 222) (by decide +kernel), List.mem_of_getElem? (i := 223) (by decide +kernel)⟩
theorem lw_p5 : lw_okq (⟨"NetworkOrders", "isEntry", "(II)Z"⟩, 13) := ⟨⟨by decide +kernel, by decide +kernel⟩, List.mem_of_getElem? (i := 16) (by decide +kernel), List.mem_of_getElem? (i := 230) (by decide +kernel), List.mem_of_getElem? (i := 231) (by decide +kernel)⟩
theorem lw_p6 : lw_okq (⟨"NetworkOrders", "isReady", "()Z"⟩, 13) := ⟨⟨by decide +kernel, by decide +kernel⟩, List.mem_of_getElem? (i := 16) (by decide +kernel), List.mem_of_getElem? (i := 245) (by decide +kernel), List.mem_of_getElem? (i := 246) (by decide +kernel)⟩
theorem lw_p7 : lw_okq (⟨"NetworkOrders", "namesUsed", "(I)I"⟩, 13) := ⟨⟨by decide +kernel, by decide +kernel⟩, List.mem_of_getElem? (i := 16) (by decide +kernel), List.mem_of_getElem? (i := 249) (by decide +kernel), List.mem_of_getElem? (i := 250) (by decide +kernel)⟩
theorem lw_p8 : lw_okq (⟨"NetworkOrders", "orderOfAll", "()LNetworkOrders$Order;"⟩, 13) := ⟨⟨by decide +kernel, by decide +kernel⟩, List.mem_of_getElem? (i := 16) (by decide +kernel), List.mem_of_getElem? (i := 257) (by decide +kernel), List.mem_of_getElem? (i := 258) (by decide +kernel)⟩
theorem lw_p9 : lw_okq (⟨"NetworkOrders", "findOrder", "(LNetworkOrders$Order;I)V"⟩, 13) := ⟨⟨by decide +kernel, by decide +kernel⟩, List.mem_of_getElem? (i := 16) (by decide +kernel), List.mem_of_getElem? (i := 261) (by decide +kernel), List.mem_of_getElem? (i := 262) (by decide +kernel)⟩
theorem lw_p10 : lw_okq (⟨"NetworkOrders", "takeLegs", "(I)V"⟩, 13) := ⟨⟨by decide +kernel, by decide +kernel⟩, List.mem_of_getElem? (i := 16) (by decide +kernel), List.mem_of_getElem? (i := 265) (by decide +kernel), List.mem_of_getElem? (i := 266) (by decide +kernel)⟩
theorem lw_p11 : lw_okq (⟨"NetworkOrders$GreedyRun", "joinAll", "([II)V"⟩, 6) := ⟨⟨by decide +kernel, by decide +kernel⟩, List.mem_of_getElem? (i := 91) (by decide +kernel), List.mem_of_getElem? (i := 269) (by decide +kernel), List.mem_of_getElem? (i := 270) (by decide +kernel)⟩
theorem lw_p12 : lw_okq (⟨"NetworkOrders$GreedyRun", "addThing", "(II)V"⟩, 6) := ⟨⟨by decide +kernel, by decide +kernel⟩, List.mem_of_getElem? (i := 91) (by decide +kernel), List.mem_of_getElem? (i := 273) (by decide +kernel), List.mem_of_getElem? (i := 274) (by decide +kernel)⟩
theorem lw_p13 : lw_okq (⟨"NetworkOrders$GreedyRun", "choose", "(II)V"⟩, 6) := ⟨⟨by decide +kernel, by decide +kernel⟩, List.mem_of_getElem? (i := 91) (by decide +kernel), List.mem_of_getElem? (i := 283) (by decide +kernel), List.mem_of_getElem? (i := 284) (by decide +kernel)⟩
theorem lw_p14 : lw_okq (⟨"NetworkOrders$Order", "find", "([III)V"⟩, 7) := ⟨⟨by decide +kernel, by decide +kernel⟩, List.mem_of_getElem? (i := 56) (by decide +kernel), List.mem_of_getElem? (i := 291) (by decide +kernel), List.mem_of_getElem? (i := 292) (by decide +kernel)⟩
theorem lw_p15 : lw_okq (⟨"NetworkOrders$Order", "isTooDear", "(II)Z"⟩, 7) := ⟨⟨by decide +kernel, by decide +kernel⟩, List.mem_of_getElem? (i := 56) (by decide +kernel), List.mem_of_getElem? (i := 299) (by decide +kernel), List.mem_of_getElem? (i := 300) (by decide +kernel)⟩
def lw_privs_1 : List (MethodName × Nat) := [(⟨"NetworkOrders", "forgetOrders", "()V"⟩, 13), (⟨"NetworkOrders$Tensor", "makeNew", "(I)V"⟩, 5), (⟨"NetworkOrders", "isTensor", "(I)Z"⟩, 13), (⟨"NetworkOrders", "countUse", "(II)V"⟩, 13), (⟨"NetworkOrders$Tensor", "setName", "(II)V"⟩, 5), (⟨"NetworkOrders", "isEntry", "(II)Z"⟩, 13), (⟨"NetworkOrders", "isReady", "()Z"⟩, 13), (⟨"NetworkOrders", "namesUsed", "(I)I"⟩, 13), (⟨"NetworkOrders", "orderOfAll", "()LNetworkOrders$Order;"⟩, 13), (⟨"NetworkOrders", "findOrder", "(LNetworkOrders$Order;I)V"⟩, 13), (⟨"NetworkOrders", "takeLegs", "(I)V"⟩, 13), (⟨"NetworkOrders$GreedyRun", "joinAll", "([II)V"⟩, 6), (⟨"NetworkOrders$GreedyRun", "addThing", "(II)V"⟩, 6), (⟨"NetworkOrders$GreedyRun", "choose", "(II)V"⟩, 6), (⟨"NetworkOrders$Order", "find", "([III)V"⟩, 7), (⟨"NetworkOrders$Order", "isTooDear", "(II)Z"⟩, 7)]
theorem lw_r1 : ∀ q ∈ lw_privs_1, lw_okq q := List.forall_mem_cons.mpr ⟨lw_p0, List.forall_mem_cons.mpr ⟨lw_p1, List.forall_mem_cons.mpr ⟨lw_p2, List.forall_mem_cons.mpr ⟨lw_p3, List.forall_mem_cons.mpr ⟨lw_p4, List.forall_mem_cons.mpr ⟨lw_p5, List.forall_mem_cons.mpr ⟨lw_p6, List.forall_mem_cons.mpr ⟨lw_p7, List.forall_mem_cons.mpr ⟨lw_p8, List.forall_mem_cons.mpr ⟨lw_p9, List.forall_mem_cons.mpr ⟨lw_p10, List.forall_mem_cons.mpr ⟨lw_p11, List.forall_mem_cons.mpr ⟨lw_p12, List.forall_mem_cons.mpr ⟨lw_p13, List.forall_mem_cons.mpr ⟨lw_p14, List.forall_mem_cons.mpr ⟨lw_p15, fun _ h => absurd h List.not_mem_nil⟩⟩⟩⟩⟩⟩⟩⟩⟩⟩⟩⟩⟩⟩⟩⟩
theorem lw_p16 : lw_okq (⟨"NetworkOrders$Order", "partInTwo", "(III)V"⟩, 7) := ⟨⟨by decide +kernel, by decide +kernel⟩, List.mem_of_getElem? (i := 56) (by decide +kernel), List.mem_of_getElem? (i := 304) (by decide +kernel), List.mem_of_getElem? (i := 305) (by decide +kernel)⟩
theorem lw_p17 : lw_okq (⟨"NetworkOrders$Order", "listSteps", "(II)V"⟩, 7) := ⟨⟨by decide +kernel, by decide +kernel⟩, List.mem_of_getElem? (i := 56) (by decide +kernel), List.mem_of_getElem? (i := 308) (by decide +kernel), List.mem_of_getElem? (i := 309) (by decide +kernel)⟩
theorem lw_p18 : lw_okq (⟨"NetworkOrders$Order", "findMostLegs", "(I)V"⟩, 7) := ⟨⟨by decide +kernel, by decide +kernel⟩, List.mem_of_getElem? (i := 56) (by decide +kernel), List.mem_of_getElem? (i := 312) (by decide +kernel), List.mem_of_getElem? (i := 313) (by decide +kernel)⟩
theorem lw_p19 : lw_okq (⟨"NetworkOrders", "namesBetweenTensors", "()I"⟩, 13) := ⟨⟨by decide +kernel, by decide +kernel⟩, List.mem_of_getElem? (i := 16) (by decide +kernel), List.mem_of_getElem? (i := 335) (by decide +kernel), List.mem_of_getElem? (i := 336) (by decide +kernel)⟩
theorem lw_p20 : lw_okq (⟨"NetworkOrders", "leastSingleCut", "(II)I"⟩, 13) := ⟨⟨by decide +kernel, by decide +kernel⟩, List.mem_of_getElem? (i := 16) (by decide +kernel), List.mem_of_getElem? (i := 339) (by decide +kernel), List.mem_of_getElem? (i := 340) (by decide +kernel)⟩
theorem lw_p21 : lw_okq (⟨"NetworkOrders", "isLowWhenCut", "(III)Z"⟩, 13) := ⟨⟨by decide +kernel, by decide +kernel⟩, List.mem_of_getElem? (i := 16) (by decide +kernel), List.mem_of_getElem? (i := 344) (by decide +kernel), List.mem_of_getElem? (i := 345) (by decide +kernel)⟩
theorem lw_p22 : lw_okq (⟨"NetworkOrders", "areTensorsLow", "(II)Z"⟩, 13) := ⟨⟨by decide +kernel, by decide +kernel⟩, List.mem_of_getElem? (i := 16) (by decide +kernel), List.mem_of_getElem? (i := 348) (by decide +kernel), List.mem_of_getElem? (i := 349) (by decide +kernel)⟩
theorem lw_p23 : lw_okq (⟨"NetworkOrders", "orderWhenCut", "(I)LNetworkOrders$Order;"⟩, 13) := ⟨⟨by decide +kernel, by decide +kernel⟩, List.mem_of_getElem? (i := 16) (by decide +kernel), List.mem_of_getElem? (i := 353) (by decide +kernel), List.mem_of_getElem? (i := 354) (by decide +kernel)⟩
theorem lw_p24 : lw_okq (⟨"NetworkOrders", "leastDoubleCut", "(II)I"⟩, 13) := ⟨⟨by decide +kernel, by decide +kernel⟩, List.mem_of_getElem? (i := 16) (by decide +kernel), List.mem_of_getElem? (i := 357) (by decide +kernel), List.mem_of_getElem? (i := 358) (by decide +kernel)⟩
theorem lw_p25 : lw_okq (⟨"NetworkOrders", "refuseUnknown", "(II)V"⟩, 13) := ⟨⟨by decide +kernel, by decide +kernel⟩, List.mem_of_getElem? (i := 16) (by decide +kernel), List.mem_of_getElem? (i := 378) (by decide +kernel), List.mem_of_getElem? (i := 379) (by decide +kernel)⟩
theorem lw_p26 : lw_okq (⟨"java/lang/Throwable", "fillInStackTrace", "(I)Ljava/lang/Throwable;"⟩, 6) := ⟨⟨by decide +kernel, by decide +kernel⟩, List.mem_of_getElem? (i := 419) (by decide +kernel), List.mem_of_getElem? (i := 417) (by decide +kernel), List.mem_of_getElem? (i := 418) (by decide +kernel)⟩
theorem lw_p27 : lw_okq (⟨"NetworkOrders", "refuseHighPeak", "()V"⟩, 13) := ⟨⟨by decide +kernel, by decide +kernel⟩, List.mem_of_getElem? (i := 16) (by decide +kernel), List.mem_of_getElem? (i := 451) (by decide +kernel), List.mem_of_getElem? (i := 452) (by decide +kernel)⟩
theorem lw_p28 : lw_okq (⟨"NetworkOrders", "contracted", "(IIII)J"⟩, 13) := ⟨⟨by decide +kernel, by decide +kernel⟩, List.mem_of_getElem? (i := 16) (by decide +kernel), List.mem_of_getElem? (i := 471) (by decide +kernel), List.mem_of_getElem? (i := 472) (by decide +kernel)⟩
theorem lw_p29 : lw_okq (⟨"NetworkOrders$Contraction", "begin", "(LNetworkOrders$Order;II)V"⟩, 9) := ⟨⟨by decide +kernel, by decide +kernel⟩, List.mem_of_getElem? (i := 119) (by decide +kernel), List.mem_of_getElem? (i := 478) (by decide +kernel), List.mem_of_getElem? (i := 479) (by decide +kernel)⟩
theorem lw_p30 : lw_okq (⟨"NetworkOrders$Contraction", "makeRoom", "(I)V"⟩, 9) := ⟨⟨by decide +kernel, by decide +kernel⟩, List.mem_of_getElem? (i := 119) (by decide +kernel), List.mem_of_getElem? (i := 483) (by decide +kernel), List.mem_of_getElem? (i := 484) (by decide +kernel)⟩
theorem lw_p31 : lw_okq (⟨"NetworkOrders$Contraction", "load", "(ILNetworkOrders$Tensor;II)V"⟩, 9) := ⟨⟨by decide +kernel, by decide +kernel⟩, List.mem_of_getElem? (i := 119) (by decide +kernel), List.mem_of_getElem? (i := 488) (by decide +kernel), List.mem_of_getElem? (i := 489) (by decide +kernel)⟩
def lw_privs_2 : List (MethodName × Nat) := [(⟨"NetworkOrders$Order", "partInTwo", "(III)V"⟩, 7), (⟨"NetworkOrders$Order", "listSteps", "(II)V"⟩, 7), (⟨"NetworkOrders$Order", "findMostLegs", "(I)V"⟩, 7), (⟨"NetworkOrders", "namesBetweenTensors", "()I"⟩, 13), (⟨"NetworkOrders", "leastSingleCut", "(II)I"⟩, 13), (⟨"NetworkOrders", "isLowWhenCut", "(III)Z"⟩, 13), (⟨"NetworkOrders", "areTensorsLow", "(II)Z"⟩, 13), (⟨"NetworkOrders", "orderWhenCut", "(I)LNetworkOrders$Order;"⟩, 13), (⟨"NetworkOrders", "leastDoubleCut", "(II)I"⟩, 13), (⟨"NetworkOrders", "refuseUnknown", "(II)V"⟩, 13), (⟨"java/lang/Throwable", "fillInStackTrace", "(I)Ljava/lang/Throwable;"⟩, 6), (⟨"NetworkOrders", "refuseHighPeak", "()V"⟩, 13), (⟨"NetworkOrders", "contracted", "(IIII)J"⟩, 13), (⟨"NetworkOrders$Contraction", "begin", "(LNetworkOrders$Order;II)V"⟩, 9), (⟨"NetworkOrders$Contraction", "makeRoom", "(I)V"⟩, 9), (⟨"NetworkOrders$Contraction", "load", "(ILNetworkOrders$Tensor;II)V"⟩, 9)]
theorem lw_r2 : ∀ q ∈ lw_privs_2, lw_okq q := List.forall_mem_cons.mpr ⟨lw_p16, List.forall_mem_cons.mpr ⟨lw_p17, List.forall_mem_cons.mpr ⟨lw_p18, List.forall_mem_cons.mpr ⟨lw_p19, List.forall_mem_cons.mpr ⟨lw_p20, List.forall_mem_cons.mpr ⟨lw_p21, List.forall_mem_cons.mpr ⟨lw_p22, List.forall_mem_cons.mpr ⟨lw_p23, List.forall_mem_cons.mpr ⟨lw_p24, List.forall_mem_cons.mpr ⟨lw_p25, List.forall_mem_cons.mpr ⟨lw_p26, List.forall_mem_cons.mpr ⟨lw_p27, List.forall_mem_cons.mpr ⟨lw_p28, List.forall_mem_cons.mpr ⟨lw_p29, List.forall_mem_cons.mpr ⟨lw_p30, List.forall_mem_cons.mpr ⟨lw_p31, fun _ h => absurd h List.not_mem_nil⟩⟩⟩⟩⟩⟩⟩⟩⟩⟩⟩⟩⟩⟩⟩⟩
theorem lw_p32 : lw_okq (⟨"NetworkOrders$Contraction", "take", "(I)I"⟩, 9) := ⟨⟨by decide +kernel, by decide +kernel⟩, List.mem_of_getElem? (i := 119) (by decide +kernel), List.mem_of_getElem? (i := 492) (by decide +kernel), List.mem_of_getElem? (i := 493) (by decide +kernel)⟩
theorem lw_p33 : lw_okq (⟨"NetworkOrders$Contraction", "add", "(ILNetworkOrders$Tensor;IIII)V"⟩, 9) := ⟨⟨by decide +kernel, by decide +kernel⟩, List.mem_of_getElem? (i := 119) (by decide +kernel), List.mem_of_getElem? (i := 496) (by decide +kernel), List.mem_of_getElem? (i := 497) (by decide +kernel)⟩
theorem lw_p34 : lw_okq (⟨"NetworkOrders$Tensor", "namesWithBit", "(II)I"⟩, 5) := ⟨⟨by decide +kernel, by decide +kernel⟩, List.mem_of_getElem? (i := 25) (by decide +kernel), List.mem_of_getElem? (i := 500) (by decide +kernel), List.mem_of_getElem? (i := 501) (by decide +kernel)⟩
theorem lw_p35 : lw_okq (⟨"NetworkOrders$Contraction", "joinAll", "(LNetworkOrders$Order;I)V"⟩, 9) := ⟨⟨by decide +kernel, by decide +kernel⟩, List.mem_of_getElem? (i := 119) (by decide +kernel), List.mem_of_getElem? (i := 507) (by decide +kernel), List.mem_of_getElem? (i := 508) (by decide +kernel)⟩
theorem lw_p36 : lw_okq (⟨"NetworkOrders$Contraction", "joinTwo", "(II)V"⟩, 9) := ⟨⟨by decide +kernel, by decide +kernel⟩, List.mem_of_getElem? (i := 119) (by decide +kernel), List.mem_of_getElem? (i := 512) (by decide +kernel), List.mem_of_getElem? (i := 513) (by decide +kernel)⟩
theorem lw_p37 : lw_okq (⟨"NetworkOrders$Contraction", "resultReal", "()J"⟩, 9) := ⟨⟨by decide +kernel, by decide +kernel⟩, List.mem_of_getElem? (i := 119) (by decide +kernel), List.mem_of_getElem? (i := 520) (by decide +kernel), List.mem_of_getElem? (i := 521) (by decide +kernel)⟩
theorem lw_p38 : lw_okq (⟨"NetworkOrders$Contraction", "resultImaginary", "()J"⟩, 9) := ⟨⟨by decide +kernel, by decide +kernel⟩, List.mem_of_getElem? (i := 119) (by decide +kernel), List.mem_of_getElem? (i := 524) (by decide +kernel), List.mem_of_getElem? (i := 525) (by decide +kernel)⟩
theorem lw_p39 : lw_okq (⟨"NetworkOrdersModel", "isTensor", "(I)Z"⟩, 31) := ⟨⟨by decide +kernel, by decide +kernel⟩, List.mem_of_getElem? (i := 536) (by decide +kernel), List.mem_of_getElem? (i := 649) (by decide +kernel), List.mem_of_getElem? (i := 650) (by decide +kernel)⟩
theorem lw_p40 : lw_okq (⟨"NetworkOrdersModel", "isIndex", "(II)Z"⟩, 31) := ⟨⟨by decide +kernel, by decide +kernel⟩, List.mem_of_getElem? (i := 536) (by decide +kernel), List.mem_of_getElem? (i := 657) (by decide +kernel), List.mem_of_getElem? (i := 658) (by decide +kernel)⟩
theorem lw_p41 : lw_okq (⟨"NetworkOrdersModel", "isReady", "()Z"⟩, 31) := ⟨⟨by decide +kernel, by decide +kernel⟩, List.mem_of_getElem? (i := 536) (by decide +kernel), List.mem_of_getElem? (i := 669) (by decide +kernel), List.mem_of_getElem? (i := 670) (by decide +kernel)⟩
theorem lw_p42 : lw_okq (⟨"NetworkOrdersModel", "findOrder", "(I)V"⟩, 31) := ⟨⟨by decide +kernel, by decide +kernel⟩, List.mem_of_getElem? (i := 536) (by decide +kernel), List.mem_of_getElem? (i := 677) (by decide +kernel), List.mem_of_getElem? (i := 678) (by decide +kernel)⟩
theorem lw_p43 : lw_okq (⟨"NetworkOrdersModel", "all", "()I"⟩, 31) := ⟨⟨by decide +kernel, by decide +kernel⟩, List.mem_of_getElem? (i := 536) (by decide +kernel), List.mem_of_getElem? (i := 681) (by decide +kernel), List.mem_of_getElem? (i := 682) (by decide +kernel)⟩
theorem lw_p44 : lw_okq (⟨"NetworkOrdersModel", "findSet", "(II)V"⟩, 31) := ⟨⟨by decide +kernel, by decide +kernel⟩, List.mem_of_getElem? (i := 536) (by decide +kernel), List.mem_of_getElem? (i := 685) (by decide +kernel), List.mem_of_getElem? (i := 686) (by decide +kernel)⟩
theorem lw_p45 : lw_okq (⟨"NetworkOrdersModel", "peakNow", "()I"⟩, 31) := ⟨⟨by decide +kernel, by decide +kernel⟩, List.mem_of_getElem? (i := 536) (by decide +kernel), List.mem_of_getElem? (i := 696) (by decide +kernel), List.mem_of_getElem? (i := 697) (by decide +kernel)⟩
theorem lw_p46 : lw_okq (⟨"NetworkOrdersModel", "findSteps", "()V"⟩, 31) := ⟨⟨by decide +kernel, by decide +kernel⟩, List.mem_of_getElem? (i := 536) (by decide +kernel), List.mem_of_getElem? (i := 700) (by decide +kernel), List.mem_of_getElem? (i := 701) (by decide +kernel)⟩
theorem lw_p47 : lw_okq (⟨"NetworkOrdersModel", "isEnough", "(II)Z"⟩, 31) := ⟨⟨by decide +kernel, by decide +kernel⟩, List.mem_of_getElem? (i := 536) (by decide +kernel), List.mem_of_getElem? (i := 712) (by decide +kernel), List.mem_of_getElem? (i := 713) (by decide +kernel)⟩
def lw_privs_3 : List (MethodName × Nat) := [(⟨"NetworkOrders$Contraction", "take", "(I)I"⟩, 9), (⟨"NetworkOrders$Contraction", "add", "(ILNetworkOrders$Tensor;IIII)V"⟩, 9), (⟨"NetworkOrders$Tensor", "namesWithBit", "(II)I"⟩, 5), (⟨"NetworkOrders$Contraction", "joinAll", "(LNetworkOrders$Order;I)V"⟩, 9), (⟨"NetworkOrders$Contraction", "joinTwo", "(II)V"⟩, 9), (⟨"NetworkOrders$Contraction", "resultReal", "()J"⟩, 9), (⟨"NetworkOrders$Contraction", "resultImaginary", "()J"⟩, 9), (⟨"NetworkOrdersModel", "isTensor", "(I)Z"⟩, 31), (⟨"NetworkOrdersModel", "isIndex", "(II)Z"⟩, 31), (⟨"NetworkOrdersModel", "isReady", "()Z"⟩, 31), (⟨"NetworkOrdersModel", "findOrder", "(I)V"⟩, 31), (⟨"NetworkOrdersModel", "all", "()I"⟩, 31), (⟨"NetworkOrdersModel", "findSet", "(II)V"⟩, 31), (⟨"NetworkOrdersModel", "peakNow", "()I"⟩, 31), (⟨"NetworkOrdersModel", "findSteps", "()V"⟩, 31), (⟨"NetworkOrdersModel", "isEnough", "(II)Z"⟩, 31)]
theorem lw_r3 : ∀ q ∈ lw_privs_3, lw_okq q := List.forall_mem_cons.mpr ⟨lw_p32, List.forall_mem_cons.mpr ⟨lw_p33, List.forall_mem_cons.mpr ⟨lw_p34, List.forall_mem_cons.mpr ⟨lw_p35, List.forall_mem_cons.mpr ⟨lw_p36, List.forall_mem_cons.mpr ⟨lw_p37, List.forall_mem_cons.mpr ⟨lw_p38, List.forall_mem_cons.mpr ⟨lw_p39, List.forall_mem_cons.mpr ⟨lw_p40, List.forall_mem_cons.mpr ⟨lw_p41, List.forall_mem_cons.mpr ⟨lw_p42, List.forall_mem_cons.mpr ⟨lw_p43, List.forall_mem_cons.mpr ⟨lw_p44, List.forall_mem_cons.mpr ⟨lw_p45, List.forall_mem_cons.mpr ⟨lw_p46, List.forall_mem_cons.mpr ⟨lw_p47, fun _ h => absurd h List.not_mem_nil⟩⟩⟩⟩⟩⟩⟩⟩⟩⟩⟩⟩⟩⟩⟩⟩
theorem lw_p48 : lw_okq (⟨"NetworkOrdersModel", "join", "(I)V"⟩, 31) := ⟨⟨by decide +kernel, by decide +kernel⟩, List.mem_of_getElem? (i := 536) (by decide +kernel), List.mem_of_getElem? (i := 724) (by decide +kernel), List.mem_of_getElem? (i := 725) (by decide +kernel)⟩
theorem lw_p49 : lw_okq (⟨"NetworkOrdersModel", "gain", "(II)I"⟩, 31) := ⟨⟨by decide +kernel, by decide +kernel⟩, List.mem_of_getElem? (i := 536) (by decide +kernel), List.mem_of_getElem? (i := 728) (by decide +kernel), List.mem_of_getElem? (i := 729) (by decide +kernel)⟩
theorem lw_p50 : lw_okq (⟨"NetworkOrdersModel", "tell", "(ZII)J"⟩, 31) := ⟨⟨by decide +kernel, by decide +kernel⟩, List.mem_of_getElem? (i := 536) (by decide +kernel), List.mem_of_getElem? (i := 736) (by decide +kernel), List.mem_of_getElem? (i := 737) (by decide +kernel)⟩
theorem lw_p51 : lw_okq (⟨"NetworkOrdersModel", "raise", "(I)J"⟩, 31) := ⟨⟨by decide +kernel, by decide +kernel⟩, List.mem_of_getElem? (i := 536) (by decide +kernel), List.mem_of_getElem? (i := 740) (by decide +kernel), List.mem_of_getElem? (i := 741) (by decide +kernel)⟩
theorem lw_p52 : lw_okq (⟨"NetworkOrdersModel", "sumUp", "(I)V"⟩, 31) := ⟨⟨by decide +kernel, by decide +kernel⟩, List.mem_of_getElem? (i := 536) (by decide +kernel), List.mem_of_getElem? (i := 744) (by decide +kernel), List.mem_of_getElem? (i := 745) (by decide +kernel)⟩
theorem lw_p53 : lw_okq (⟨"NetworkOrdersModel", "order", "(I)V"⟩, 31) := ⟨⟨by decide +kernel, by decide +kernel⟩, List.mem_of_getElem? (i := 536) (by decide +kernel), List.mem_of_getElem? (i := 748) (by decide +kernel), List.mem_of_getElem? (i := 749) (by decide +kernel)⟩
theorem lw_p54 : lw_okq (⟨"NetworkOrdersModel", "multiply", "(I)V"⟩, 31) := ⟨⟨by decide +kernel, by decide +kernel⟩, List.mem_of_getElem? (i := 536) (by decide +kernel), List.mem_of_getElem? (i := 752) (by decide +kernel), List.mem_of_getElem? (i := 753) (by decide +kernel)⟩
theorem lw_p55 : lw_okq (⟨"NetworkOrdersModel", "indexOf", "(I)I"⟩, 31) := ⟨⟨by decide +kernel, by decide +kernel⟩, List.mem_of_getElem? (i := 536) (by decide +kernel), List.mem_of_getElem? (i := 756) (by decide +kernel), List.mem_of_getElem? (i := 757) (by decide +kernel)⟩
def lw_privs_4 : List (MethodName × Nat) := [(⟨"NetworkOrdersModel", "join", "(I)V"⟩, 31), (⟨"NetworkOrdersModel", "gain", "(II)I"⟩, 31), (⟨"NetworkOrdersModel", "tell", "(ZII)J"⟩, 31), (⟨"NetworkOrdersModel", "raise", "(I)J"⟩, 31), (⟨"NetworkOrdersModel", "sumUp", "(I)V"⟩, 31), (⟨"NetworkOrdersModel", "order", "(I)V"⟩, 31), (⟨"NetworkOrdersModel", "multiply", "(I)V"⟩, 31), (⟨"NetworkOrdersModel", "indexOf", "(I)I"⟩, 31)]
theorem lw_r4 : ∀ q ∈ lw_privs_4, lw_okq q := List.forall_mem_cons.mpr ⟨lw_p48, List.forall_mem_cons.mpr ⟨lw_p49, List.forall_mem_cons.mpr ⟨lw_p50, List.forall_mem_cons.mpr ⟨lw_p51, List.forall_mem_cons.mpr ⟨lw_p52, List.forall_mem_cons.mpr ⟨lw_p53, List.forall_mem_cons.mpr ⟨lw_p54, List.forall_mem_cons.mpr ⟨lw_p55, fun _ h => absurd h List.not_mem_nil⟩⟩⟩⟩⟩⟩⟩⟩
def lw_privs : List (MethodName × Nat) := lw_privs_1 ++ (lw_privs_2 ++ (lw_privs_3 ++ (lw_privs_4)))
def lw_tbl : List Cond := k2_sels lw_privs ++ tables_1
theorem lw_privs_ok : ∀ q ∈ lw_privs, lw_okq q := by
  show ∀ q ∈ lw_privs_1 ++ (lw_privs_2 ++ (lw_privs_3 ++ (lw_privs_4))), lw_okq q
  exact List.forall_mem_append.mpr ⟨lw_r1, List.forall_mem_append.mpr ⟨lw_r2, List.forall_mem_append.mpr ⟨lw_r3, lw_r4⟩⟩⟩
end
section
-- NAMES, laid by wip/whole/gen/gen_names.py out of the Statement
abbrev hv_M : Type := MethodName × ByteArray × Nat × Option FieldType
def hv_tbl : List Cond := lw_tbl.filter goodWord
def hv_isN : Cond → Bool
  | .fieldLinkNest .. => true
  | .methodLinkNest .. => true
  | _ => false
def hv_nest : List Cond := lw_tbl.filter hv_isN
theorem hv_nest_ok : ∀ w ∈ hv_nest, hv_isN w = true := fun w h => (List.mem_filter.mp h).2
def hv_over : List String := ["NetworkOrders$Tensor"]
def hv_tys : List FieldType := [.int, .long, .object "NetworkOrders$Tensor", .boolean]
def hv_exn (k : Nat) : String := match k with
  | 0 => "java/util/NoSuchElementException"
  | _ => "java/lang/ArithmeticException"
theorem lw_good : ∀ w ∈ hv_tbl, (w.onTables && w.keeps) = true ∨ ∃ ty, w = .arrayClass ty := fun w h => good_of_word (List.mem_filter.mp h).2
theorem hv_mem (i : Nat) {w : Cond} (h : lw_tbl[i]? = some w) (g : goodWord w = true) : w ∈ hv_tbl := List.mem_filter.mpr ⟨List.mem_of_getElem? h, g⟩
theorem hv_memN (i : Nat) {w : Cond} (h : lw_tbl[i]? = some w) (g : hv_isN w = true) : w ∈ hv_nest := List.mem_filter.mpr ⟨List.mem_of_getElem? h, g⟩
def RX0 : String := "NetworkOrders$Contraction"
def TX0 : u_T := fun k => match k with
  | 0 => ("NetworkOrders$Contraction", "starts", "[I", true)
  | 1 => ("NetworkOrders$Contraction", "bonds", "[I", true)
  | 2 => ("NetworkOrders$Contraction", "movesFirst", "[I", true)
  | 3 => ("NetworkOrders$Contraction", "movesSecond", "[I", true)
  | 4 => ("NetworkOrders$Contraction", "movesMade", "[I", true)
  | 5 => ("NetworkOrders$Contraction", "real", "[J", false)
  | 6 => ("NetworkOrders$Contraction", "imaginary", "[J", false)
  | 7 => ("NetworkOrders$Contraction", "openNames", "I", false)
  | _ => ("NetworkOrders$Contraction", "used", "I", false)
def tyX0 : Nat → FieldType := fun k => match k with
  | 0 => (.array .int)
  | 1 => (.array .int)
  | 2 => (.array .int)
  | 3 => (.array .int)
  | 4 => (.array .int)
  | 5 => (.array .long)
  | 6 => (.array .long)
  | 7 => .int
  | _ => .int
def RX1 : String := "NetworkOrders$GreedyRun"
def TX1 : u_T := fun k => match k with
  | 0 => ("NetworkOrders$GreedyRun", "legs", "[I", true)
  | 1 => ("NetworkOrders$GreedyRun", "sizes", "[I", true)
  | 2 => ("NetworkOrders$GreedyRun", "lesser", "[I", true)
  | 3 => ("NetworkOrders$GreedyRun", "other", "[I", true)
  | 4 => ("NetworkOrders$GreedyRun", "gone", "I", false)
  | _ => ("NetworkOrders$GreedyRun", "allCosts", "I", false)
def tyX1 : Nat → FieldType := fun k => match k with
  | 0 => (.array .int)
  | 1 => (.array .int)
  | 2 => (.array .int)
  | 3 => (.array .int)
  | 4 => .int
  | _ => .int
def RX2 : String := "NetworkOrders$Order"
def TX2 : u_T := fun k => match k with
  | 0 => ("NetworkOrders$Order", "legs", "[I", true)
  | 1 => ("NetworkOrders$Order", "costs", "[I", true)
  | 2 => ("NetworkOrders$Order", "firsts", "[I", true)
  | 3 => ("NetworkOrders$Order", "made", "[I", true)
  | 4 => ("NetworkOrders$Order", "waiting", "[I", true)
  | 5 => ("NetworkOrders$Order", "allCosts", "I", false)
  | _ => ("NetworkOrders$Order", "mostLegs", "I", false)
def tyX2 : Nat → FieldType := fun k => match k with
  | 0 => (.array .int)
  | 1 => (.array .int)
  | 2 => (.array .int)
  | 3 => (.array .int)
  | 4 => (.array .int)
  | 5 => .int
  | _ => .int
def RX3 : String := "NetworkOrders$Tensor"
def TX3 : u_T := fun k => match k with
  | 0 => ("NetworkOrders$Tensor", "names", "[I", true)
  | 1 => ("NetworkOrders$Tensor", "real", "[I", true)
  | 2 => ("NetworkOrders$Tensor", "imaginary", "[I", true)
  | 3 => ("NetworkOrders$Tensor", "places", "I", false)
  | _ => ("NetworkOrders$Tensor", "legs", "I", false)
def tyX3 : Nat → FieldType := fun k => match k with
  | 0 => (.array .int)
  | 1 => (.array .int)
  | 2 => (.array .int)
  | 3 => .int
  | _ => .int
def RX4 : String := "NetworkOrders"
def TX4 : u_T := fun k => match k with
  | 0 => ("NetworkOrders", "tensors", "[LNetworkOrders$Tensor;", true)
  | 1 => ("NetworkOrders", "uses", "[I", true)
  | 2 => ("NetworkOrders", "legsOfOne", "[I", true)
  | 3 => ("NetworkOrders", "cutPeaks", "[I", true)
  | 4 => ("NetworkOrders", "whole", "LNetworkOrders$Order;", true)
  | 5 => ("NetworkOrders", "left", "LNetworkOrders$Order;", true)
  | 6 => ("NetworkOrders", "greedyRun", "LNetworkOrders$GreedyRun;", true)
  | 7 => ("NetworkOrders", "contraction", "LNetworkOrders$Contraction;", true)
  | 8 => ("NetworkOrders", "count", "I", false)
  | 9 => ("NetworkOrders", "allPlaces", "I", false)
  | 10 => ("NetworkOrders", "barePlaces", "I", false)
  | 11 => ("NetworkOrders", "wholeKnown", "Z", false)
  | _ => ("NetworkOrders", "leftKnownFor", "I", false)
def tyX4 : Nat → FieldType := fun k => match k with
  | 0 => (.array (.object "NetworkOrders$Tensor"))
  | 1 => (.array .int)
  | 2 => (.array .int)
  | 3 => (.array .int)
  | 4 => (.object "NetworkOrders$Order")
  | 5 => (.object "NetworkOrders$Order")
  | 6 => (.object "NetworkOrders$GreedyRun")
  | 7 => (.object "NetworkOrders$Contraction")
  | 8 => .int
  | 9 => .int
  | 10 => .int
  | 11 => .boolean
  | _ => .int
def RX5 : String := "NetworkOrdersModel"
def TX5 : u_T := fun k => match k with
  | 0 => ("NetworkOrdersModel", "thrown", "I", false)
  | 1 => ("NetworkOrdersModel", "tensors", "I", false)
  | 2 => ("NetworkOrdersModel", "places", "[I", true)
  | 3 => ("NetworkOrdersModel", "legAt", "[I", true)
  | 4 => ("NetworkOrdersModel", "real", "[I", true)
  | 5 => ("NetworkOrdersModel", "imaginary", "[I", true)
  | 6 => ("NetworkOrdersModel", "open", "I", false)
  | 7 => ("NetworkOrdersModel", "shared", "I", false)
  | 8 => ("NetworkOrdersModel", "single", "[I", true)
  | 9 => ("NetworkOrdersModel", "legsOf", "[I", true)
  | 10 => ("NetworkOrdersModel", "costOf", "[I", true)
  | 11 => ("NetworkOrdersModel", "firstOf", "[I", true)
  | 12 => ("NetworkOrdersModel", "steps", "I", false)
  | 13 => ("NetworkOrdersModel", "stepSet", "[I", true)
  | 14 => ("NetworkOrdersModel", "waiting", "[I", true)
  | 15 => ("NetworkOrdersModel", "thing", "[I", true)
  | 16 => ("NetworkOrdersModel", "isGone", "[Z", true)
  | 17 => ("NetworkOrdersModel", "one", "[I", true)
  | 18 => ("NetworkOrdersModel", "other", "[I", true)
  | 19 => ("NetworkOrdersModel", "turns", "I", false)
  | 20 => ("NetworkOrdersModel", "greedyCost", "I", false)
  | 21 => ("NetworkOrdersModel", "valueOf", "[I", true)
  | 22 => ("NetworkOrdersModel", "legs", "[I", true)
  | 23 => ("NetworkOrdersModel", "many", "I", false)
  | 24 => ("NetworkOrdersModel", "behind", "[I", true)
  | 25 => ("NetworkOrdersModel", "partReal", "[J", true)
  | 26 => ("NetworkOrdersModel", "partImaginary", "[J", true)
  | 27 => ("NetworkOrdersModel", "sumReal", "J", false)
  | 28 => ("NetworkOrdersModel", "sumImaginary", "J", false)
  | 29 => ("NetworkOrdersModel", "sole", "I", false)
  | _ => ("NetworkOrdersModel", "soleIndex", "I", false)
def tyX5 : Nat → FieldType := fun k => match k with
  | 0 => .int
  | 1 => .int
  | 2 => (.array .int)
  | 3 => (.array .int)
  | 4 => (.array .int)
  | 5 => (.array .int)
  | 6 => .int
  | 7 => .int
  | 8 => (.array .int)
  | 9 => (.array .int)
  | 10 => (.array .int)
  | 11 => (.array .int)
  | 12 => .int
  | 13 => (.array .int)
  | 14 => (.array .int)
  | 15 => (.array .int)
  | 16 => (.array .boolean)
  | 17 => (.array .int)
  | 18 => (.array .int)
  | 19 => .int
  | 20 => .int
  | 21 => (.array .int)
  | 22 => (.array .int)
  | 23 => .int
  | 24 => (.array .int)
  | 25 => (.array .long)
  | 26 => (.array .long)
  | 27 => .long
  | 28 => .long
  | 29 => .int
  | _ => .int
abbrev vwCl : List vw_C := [(RX0, TX0, 9), (RX1, TX1, 6), (RX2, TX2, 7), (RX3, TX3, 5), (RX4, TX4, 13), (RX5, TX5, 31)]
/-- a class of the world: its number, fields, words -/
def hv_cl (ci : Nat) (C : String) (T : u_T) (N : Nat) (ty : Nat → FieldType) : Prop := vwCl[ci]? = some (C, T, N) ∧ (∀ w ∈ u_ws C T N, w ∈ hv_tbl) ∧ (∀ j, j < N → parseFieldDescriptor (T j).2.2.1 = some (ty j)) ∧ (∀ a, a < N → ∀ b, b < N → a ≠ b → (T a).2.1 ≠ (T b).2.1) ∧ ∀ k, k < N → (T k).1 = C
/-- the pool's entry idx of the class own is the field k of the class number ci, of type ty -/
def hv_fl (own : String) (idx ci k : Nat) (ty : FieldType) : Prop := ∃ (C : String) (T : u_T) (N : Nat) (tt : Nat → FieldType), hv_cl ci C T N tt ∧ k < N ∧ tt k = ty ∧ (Cond.fieldLink own idx C (T k).2.1 (T k).2.2.1 ∈ hv_tbl ∨ ∃ host, Cond.fieldLinkNest own idx C (T k).2.1 (T k).2.2.1 host ∈ hv_nest)
/-- and it may be written there -/
def hv_fp (own mn : String) (idx ci k : Nat) (ty : FieldType) : Prop := ∃ (C : String) (T : u_T) (N : Nat) (tt : Nat → FieldType), hv_cl ci C T N tt ∧ k < N ∧ tt k = ty ∧ (((T k).2.2.2 = false ∧ (Cond.fieldLink own idx C (T k).2.1 (T k).2.2.1 ∈ hv_tbl ∨ ∃ host, Cond.fieldLinkNest own idx C (T k).2.1 (T k).2.2.1 host ∈ hv_nest)) ∨ ((T k).2.2.2 = true ∧ mn = "<init>" ∧ C = own ∧ Cond.fieldLink own idx C (T k).2.1 (T k).2.2.1 ∈ hv_tbl))
/-- a class that own may make: what a new object of it holds -/
def hv_nw (own : String) (idx ci N : Nat) (fs : List Value) : Prop := ∃ (C : String) (T : u_T) (tt : Nat → FieldType), hv_cl ci C T N tt ∧ Cond.classLink own idx C ∈ hv_tbl ∧ Cond.instantiable C N ∈ hv_tbl ∧ Cond.initialized C ∈ hv_tbl ∧ ∀ j, j < N → defaultValue (tt j) = vp_V fs j
def hv_mB (M : hv_M) (n : Nat) : Prop := Cond.initialized M.1.cls ∈ hv_tbl ∧ Cond.code M.1 M.2.1 M.2.2.1 M.2.2.2 ∈ hv_tbl ∧ (M.1.cls ≠ "java/lang/invoke/MethodHandle" ∧ M.1.cls ≠ "java/lang/invoke/VarHandle") ∧ (parseMethodDescriptor M.1.desc).map (fun d => d.parameters.length) = some n
def hv_mL (own : String) (idx : Nat) (M : hv_M) : Prop := Cond.methodLink own idx M.1 ∈ hv_tbl ∨ ∃ host, Cond.methodLinkNest own idx M.1 host ∈ hv_nest
theorem wsX0_in : ∀ w ∈ u_ws RX0 TX0 9, w ∈ hv_tbl := fun w h => List.mem_filter.mpr ⟨(by decide +kernel : ∀ w ∈ u_ws RX0 TX0 9, w ∈ lw_tbl) w h, (by decide +kernel : ∀ w ∈ u_ws RX0 TX0 9, goodWord w = true) w h⟩
theorem cl_0 : hv_cl 0 RX0 TX0 9 tyX0 := ⟨rfl, wsX0_in, by decide +kernel, by decide +kernel, by decide +kernel⟩
theorem wsX1_in : ∀ w ∈ u_ws RX1 TX1 6, w ∈ hv_tbl := fun w h => List.mem_filter.mpr ⟨(by decide +kernel : ∀ w ∈ u_ws RX1 TX1 6, w ∈ lw_tbl) w h, (by decide +kernel : ∀ w ∈ u_ws RX1 TX1 6, goodWord w = true) w h⟩
theorem cl_1 : hv_cl 1 RX1 TX1 6 tyX1 := ⟨rfl, wsX1_in, by decide +kernel, by decide +kernel, by decide +kernel⟩
theorem wsX2_in : ∀ w ∈ u_ws RX2 TX2 7, w ∈ hv_tbl := fun w h => List.mem_filter.mpr ⟨(by decide +kernel : ∀ w ∈ u_ws RX2 TX2 7, w ∈ lw_tbl) w h, (by decide +kernel : ∀ w ∈ u_ws RX2 TX2 7, goodWord w = true) w h⟩
theorem cl_2 : hv_cl 2 RX2 TX2 7 tyX2 := ⟨rfl, wsX2_in, by decide +kernel, by decide +kernel, by decide +kernel⟩
theorem wsX3_in : ∀ w ∈ u_ws RX3 TX3 5, w ∈ hv_tbl := fun w h => List.mem_filter.mpr ⟨(by decide +kernel : ∀ w ∈ u_ws RX3 TX3 5, w ∈ lw_tbl) w h, (by decide +kernel : ∀ w ∈ u_ws RX3 TX3 5, goodWord w = true) w h⟩
theorem cl_3 : hv_cl 3 RX3 TX3 5 tyX3 := ⟨rfl, wsX3_in, by decide +kernel, by decide +kernel, by decide +kernel⟩
theorem wsX4_in : ∀ w ∈ u_ws RX4 TX4 13, w ∈ hv_tbl := fun w h => List.mem_filter.mpr ⟨(by decide +kernel : ∀ w ∈ u_ws RX4 TX4 13, w ∈ lw_tbl) w h, (by decide +kernel : ∀ w ∈ u_ws RX4 TX4 13, goodWord w = true) w h⟩
theorem cl_4 : hv_cl 4 RX4 TX4 13 tyX4 := ⟨rfl, wsX4_in, by decide +kernel, by decide +kernel, by decide +kernel⟩
theorem wsX5_in : ∀ w ∈ u_ws RX5 TX5 31, w ∈ hv_tbl := fun w h => List.mem_filter.mpr ⟨(by decide +kernel : ∀ w ∈ u_ws RX5 TX5 31, w ∈ lw_tbl) w h, (by decide +kernel : ∀ w ∈ u_ws RX5 TX5 31, goodWord w = true) w h⟩
theorem cl_5 : hv_cl 5 RX5 TX5 31 tyX5 := ⟨rfl, wsX5_in, by decide +kernel, by decide +kernel, by decide +kernel⟩
theorem fl_T_9 : hv_fl "NetworkOrders$Tensor" 9 3 0 (.array .int) := ⟨RX3, TX3, 5, tyX3, cl_3, by decide, rfl, Or.inl (hv_mem 86 (by decide +kernel) (by decide +kernel))⟩
theorem fp_T_9 : hv_fp "NetworkOrders$Tensor" "<init>" 9 3 0 (.array .int) := ⟨RX3, TX3, 5, tyX3, cl_3, by decide, rfl, Or.inr ⟨rfl, rfl, rfl, hv_mem 86 (by decide +kernel) (by decide +kernel)⟩⟩
theorem fl_T_15 : hv_fl "NetworkOrders$Tensor" 15 3 1 (.array .int) := ⟨RX3, TX3, 5, tyX3, cl_3, by decide, rfl, Or.inl (hv_mem 88 (by decide +kernel) (by decide +kernel))⟩
theorem fp_T_15 : hv_fp "NetworkOrders$Tensor" "<init>" 15 3 1 (.array .int) := ⟨RX3, TX3, 5, tyX3, cl_3, by decide, rfl, Or.inr ⟨rfl, rfl, rfl, hv_mem 88 (by decide +kernel) (by decide +kernel)⟩⟩
theorem fl_T_18 : hv_fl "NetworkOrders$Tensor" 18 3 2 (.array .int) := ⟨RX3, TX3, 5, tyX3, cl_3, by decide, rfl, Or.inl (hv_mem 91 (by decide +kernel) (by decide +kernel))⟩
theorem fp_T_18 : hv_fp "NetworkOrders$Tensor" "<init>" 18 3 2 (.array .int) := ⟨RX3, TX3, 5, tyX3, cl_3, by decide, rfl, Or.inr ⟨rfl, rfl, rfl, hv_mem 91 (by decide +kernel) (by decide +kernel)⟩⟩
theorem fl_T_21 : hv_fl "NetworkOrders$Tensor" 21 3 3 .int := ⟨RX3, TX3, 5, tyX3, cl_3, by decide, rfl, Or.inl (hv_mem 94 (by decide +kernel) (by decide +kernel))⟩
theorem fp_T_21 {mn : String} : hv_fp "NetworkOrders$Tensor" mn 21 3 3 .int := ⟨RX3, TX3, 5, tyX3, cl_3, by decide, rfl, Or.inl ⟨rfl, Or.inl (hv_mem 94 (by decide +kernel) (by decide +kernel))⟩⟩
theorem fl_T_25 : hv_fl "NetworkOrders$Tensor" 25 3 4 .int := ⟨RX3, TX3, 5, tyX3, cl_3, by decide, rfl, Or.inl (hv_mem 97 (by decide +kernel) (by decide +kernel))⟩
theorem fp_T_25 {mn : String} : hv_fp "NetworkOrders$Tensor" mn 25 3 4 .int := ⟨RX3, TX3, 5, tyX3, cl_3, by decide, rfl, Or.inl ⟨rfl, Or.inl (hv_mem 97 (by decide +kernel) (by decide +kernel))⟩⟩
theorem fl_O_9 : hv_fl "NetworkOrders$Order" 9 2 0 (.array .int) := ⟨RX2, TX2, 7, tyX2, cl_2, by decide, rfl, Or.inl (hv_mem 117 (by decide +kernel) (by decide +kernel))⟩
theorem fp_O_9 : hv_fp "NetworkOrders$Order" "<init>" 9 2 0 (.array .int) := ⟨RX2, TX2, 7, tyX2, cl_2, by decide, rfl, Or.inr ⟨rfl, rfl, rfl, hv_mem 117 (by decide +kernel) (by decide +kernel)⟩⟩
theorem fl_O_15 : hv_fl "NetworkOrders$Order" 15 2 1 (.array .int) := ⟨RX2, TX2, 7, tyX2, cl_2, by decide, rfl, Or.inl (hv_mem 119 (by decide +kernel) (by decide +kernel))⟩
theorem fp_O_15 : hv_fp "NetworkOrders$Order" "<init>" 15 2 1 (.array .int) := ⟨RX2, TX2, 7, tyX2, cl_2, by decide, rfl, Or.inr ⟨rfl, rfl, rfl, hv_mem 119 (by decide +kernel) (by decide +kernel)⟩⟩
theorem fl_O_18 : hv_fl "NetworkOrders$Order" 18 2 2 (.array .int) := ⟨RX2, TX2, 7, tyX2, cl_2, by decide, rfl, Or.inl (hv_mem 120 (by decide +kernel) (by decide +kernel))⟩
theorem fp_O_18 : hv_fp "NetworkOrders$Order" "<init>" 18 2 2 (.array .int) := ⟨RX2, TX2, 7, tyX2, cl_2, by decide, rfl, Or.inr ⟨rfl, rfl, rfl, hv_mem 120 (by decide +kernel) (by decide +kernel)⟩⟩
theorem fl_O_21 : hv_fl "NetworkOrders$Order" 21 2 3 (.array .int) := ⟨RX2, TX2, 7, tyX2, cl_2, by decide, rfl, Or.inl (hv_mem 123 (by decide +kernel) (by decide +kernel))⟩
theorem fp_O_21 : hv_fp "NetworkOrders$Order" "<init>" 21 2 3 (.array .int) := ⟨RX2, TX2, 7, tyX2, cl_2, by decide, rfl, Or.inr ⟨rfl, rfl, rfl, hv_mem 123 (by decide +kernel) (by decide +kernel)⟩⟩
theorem fl_O_24 : hv_fl "NetworkOrders$Order" 24 2 4 (.array .int) := ⟨RX2, TX2, 7, tyX2, cl_2, by decide, rfl, Or.inl (hv_mem 126 (by decide +kernel) (by decide +kernel))⟩
theorem fp_O_24 : hv_fp "NetworkOrders$Order" "<init>" 24 2 4 (.array .int) := ⟨RX2, TX2, 7, tyX2, cl_2, by decide, rfl, Or.inr ⟨rfl, rfl, rfl, hv_mem 126 (by decide +kernel) (by decide +kernel)⟩⟩
theorem fl_O_41 : hv_fl "NetworkOrders$Order" 41 2 5 .int := ⟨RX2, TX2, 7, tyX2, cl_2, by decide, rfl, Or.inl (hv_mem 127 (by decide +kernel) (by decide +kernel))⟩
theorem fp_O_41 {mn : String} : hv_fp "NetworkOrders$Order" mn 41 2 5 .int := ⟨RX2, TX2, 7, tyX2, cl_2, by decide, rfl, Or.inl ⟨rfl, Or.inl (hv_mem 127 (by decide +kernel) (by decide +kernel))⟩⟩
theorem fl_O_56 : hv_fl "NetworkOrders$Order" 56 2 6 .int := ⟨RX2, TX2, 7, tyX2, cl_2, by decide, rfl, Or.inl (hv_mem 129 (by decide +kernel) (by decide +kernel))⟩
theorem fp_O_56 {mn : String} : hv_fp "NetworkOrders$Order" mn 56 2 6 .int := ⟨RX2, TX2, 7, tyX2, cl_2, by decide, rfl, Or.inl ⟨rfl, Or.inl (hv_mem 129 (by decide +kernel) (by decide +kernel))⟩⟩
theorem fl_G_9 : hv_fl "NetworkOrders$GreedyRun" 9 1 0 (.array .int) := ⟨RX1, TX1, 6, tyX1, cl_1, by decide, rfl, Or.inl (hv_mem 152 (by decide +kernel) (by decide +kernel))⟩
theorem fp_G_9 : hv_fp "NetworkOrders$GreedyRun" "<init>" 9 1 0 (.array .int) := ⟨RX1, TX1, 6, tyX1, cl_1, by decide, rfl, Or.inr ⟨rfl, rfl, rfl, hv_mem 152 (by decide +kernel) (by decide +kernel)⟩⟩
theorem fl_G_15 : hv_fl "NetworkOrders$GreedyRun" 15 1 1 (.array .int) := ⟨RX1, TX1, 6, tyX1, cl_1, by decide, rfl, Or.inl (hv_mem 153 (by decide +kernel) (by decide +kernel))⟩
theorem fp_G_15 : hv_fp "NetworkOrders$GreedyRun" "<init>" 15 1 1 (.array .int) := ⟨RX1, TX1, 6, tyX1, cl_1, by decide, rfl, Or.inr ⟨rfl, rfl, rfl, hv_mem 153 (by decide +kernel) (by decide +kernel)⟩⟩
theorem fl_G_18 : hv_fl "NetworkOrders$GreedyRun" 18 1 2 (.array .int) := ⟨RX1, TX1, 6, tyX1, cl_1, by decide, rfl, Or.inl (hv_mem 154 (by decide +kernel) (by decide +kernel))⟩
theorem fp_G_18 : hv_fp "NetworkOrders$GreedyRun" "<init>" 18 1 2 (.array .int) := ⟨RX1, TX1, 6, tyX1, cl_1, by decide, rfl, Or.inr ⟨rfl, rfl, rfl, hv_mem 154 (by decide +kernel) (by decide +kernel)⟩⟩
theorem fl_G_21 : hv_fl "NetworkOrders$GreedyRun" 21 1 3 (.array .int) := ⟨RX1, TX1, 6, tyX1, cl_1, by decide, rfl, Or.inl (hv_mem 156 (by decide +kernel) (by decide +kernel))⟩
theorem fp_G_21 : hv_fp "NetworkOrders$GreedyRun" "<init>" 21 1 3 (.array .int) := ⟨RX1, TX1, 6, tyX1, cl_1, by decide, rfl, Or.inr ⟨rfl, rfl, rfl, hv_mem 156 (by decide +kernel) (by decide +kernel)⟩⟩
theorem fl_G_24 : hv_fl "NetworkOrders$GreedyRun" 24 1 4 .int := ⟨RX1, TX1, 6, tyX1, cl_1, by decide, rfl, Or.inl (hv_mem 158 (by decide +kernel) (by decide +kernel))⟩
theorem fp_G_24 {mn : String} : hv_fp "NetworkOrders$GreedyRun" mn 24 1 4 .int := ⟨RX1, TX1, 6, tyX1, cl_1, by decide, rfl, Or.inl ⟨rfl, Or.inl (hv_mem 158 (by decide +kernel) (by decide +kernel))⟩⟩
theorem fl_G_28 : hv_fl "NetworkOrders$GreedyRun" 28 1 5 .int := ⟨RX1, TX1, 6, tyX1, cl_1, by decide, rfl, Or.inl (hv_mem 159 (by decide +kernel) (by decide +kernel))⟩
theorem fp_G_28 {mn : String} : hv_fp "NetworkOrders$GreedyRun" mn 28 1 5 .int := ⟨RX1, TX1, 6, tyX1, cl_1, by decide, rfl, Or.inl ⟨rfl, Or.inl (hv_mem 159 (by decide +kernel) (by decide +kernel))⟩⟩
theorem fl_C_9 : hv_fl "NetworkOrders$Contraction" 9 0 0 (.array .int) := ⟨RX0, TX0, 9, tyX0, cl_0, by decide, rfl, Or.inl (hv_mem 180 (by decide +kernel) (by decide +kernel))⟩
theorem fp_C_9 : hv_fp "NetworkOrders$Contraction" "<init>" 9 0 0 (.array .int) := ⟨RX0, TX0, 9, tyX0, cl_0, by decide, rfl, Or.inr ⟨rfl, rfl, rfl, hv_mem 180 (by decide +kernel) (by decide +kernel)⟩⟩
theorem fl_C_15 : hv_fl "NetworkOrders$Contraction" 15 0 1 (.array .int) := ⟨RX0, TX0, 9, tyX0, cl_0, by decide, rfl, Or.inl (hv_mem 181 (by decide +kernel) (by decide +kernel))⟩
theorem fp_C_15 : hv_fp "NetworkOrders$Contraction" "<init>" 15 0 1 (.array .int) := ⟨RX0, TX0, 9, tyX0, cl_0, by decide, rfl, Or.inr ⟨rfl, rfl, rfl, hv_mem 181 (by decide +kernel) (by decide +kernel)⟩⟩
theorem fl_C_18 : hv_fl "NetworkOrders$Contraction" 18 0 2 (.array .int) := ⟨RX0, TX0, 9, tyX0, cl_0, by decide, rfl, Or.inl (hv_mem 182 (by decide +kernel) (by decide +kernel))⟩
theorem fp_C_18 : hv_fp "NetworkOrders$Contraction" "<init>" 18 0 2 (.array .int) := ⟨RX0, TX0, 9, tyX0, cl_0, by decide, rfl, Or.inr ⟨rfl, rfl, rfl, hv_mem 182 (by decide +kernel) (by decide +kernel)⟩⟩
theorem fl_C_21 : hv_fl "NetworkOrders$Contraction" 21 0 3 (.array .int) := ⟨RX0, TX0, 9, tyX0, cl_0, by decide, rfl, Or.inl (hv_mem 183 (by decide +kernel) (by decide +kernel))⟩
theorem fp_C_21 : hv_fp "NetworkOrders$Contraction" "<init>" 21 0 3 (.array .int) := ⟨RX0, TX0, 9, tyX0, cl_0, by decide, rfl, Or.inr ⟨rfl, rfl, rfl, hv_mem 183 (by decide +kernel) (by decide +kernel)⟩⟩
theorem fl_C_24 : hv_fl "NetworkOrders$Contraction" 24 0 4 (.array .int) := ⟨RX0, TX0, 9, tyX0, cl_0, by decide, rfl, Or.inl (hv_mem 184 (by decide +kernel) (by decide +kernel))⟩
theorem fp_C_24 : hv_fp "NetworkOrders$Contraction" "<init>" 24 0 4 (.array .int) := ⟨RX0, TX0, 9, tyX0, cl_0, by decide, rfl, Or.inr ⟨rfl, rfl, rfl, hv_mem 184 (by decide +kernel) (by decide +kernel)⟩⟩
theorem fl_C_27 : hv_fl "NetworkOrders$Contraction" 27 0 5 (.array .long) := ⟨RX0, TX0, 9, tyX0, cl_0, by decide, rfl, Or.inl (hv_mem 185 (by decide +kernel) (by decide +kernel))⟩
theorem fp_C_27 {mn : String} : hv_fp "NetworkOrders$Contraction" mn 27 0 5 (.array .long) := ⟨RX0, TX0, 9, tyX0, cl_0, by decide, rfl, Or.inl ⟨rfl, Or.inl (hv_mem 185 (by decide +kernel) (by decide +kernel))⟩⟩
theorem fl_C_31 : hv_fl "NetworkOrders$Contraction" 31 0 6 (.array .long) := ⟨RX0, TX0, 9, tyX0, cl_0, by decide, rfl, Or.inl (hv_mem 186 (by decide +kernel) (by decide +kernel))⟩
theorem fp_C_31 {mn : String} : hv_fp "NetworkOrders$Contraction" mn 31 0 6 (.array .long) := ⟨RX0, TX0, 9, tyX0, cl_0, by decide, rfl, Or.inl ⟨rfl, Or.inl (hv_mem 186 (by decide +kernel) (by decide +kernel))⟩⟩
theorem fl_C_34 : hv_fl "NetworkOrders$Contraction" 34 0 7 .int := ⟨RX0, TX0, 9, tyX0, cl_0, by decide, rfl, Or.inl (hv_mem 187 (by decide +kernel) (by decide +kernel))⟩
theorem fp_C_34 {mn : String} : hv_fp "NetworkOrders$Contraction" mn 34 0 7 .int := ⟨RX0, TX0, 9, tyX0, cl_0, by decide, rfl, Or.inl ⟨rfl, Or.inl (hv_mem 187 (by decide +kernel) (by decide +kernel))⟩⟩
theorem fl_C_38 : hv_fl "NetworkOrders$Contraction" 38 0 8 .int := ⟨RX0, TX0, 9, tyX0, cl_0, by decide, rfl, Or.inl (hv_mem 188 (by decide +kernel) (by decide +kernel))⟩
theorem fp_C_38 {mn : String} : hv_fp "NetworkOrders$Contraction" mn 38 0 8 .int := ⟨RX0, TX0, 9, tyX0, cl_0, by decide, rfl, Or.inl ⟨rfl, Or.inl (hv_mem 188 (by decide +kernel) (by decide +kernel))⟩⟩
theorem fl_N_11 : hv_fl "NetworkOrders" 11 4 0 (.array (.object "NetworkOrders$Tensor")) := ⟨RX4, TX4, 13, tyX4, cl_4, by decide, rfl, Or.inl (hv_mem 216 (by decide +kernel) (by decide +kernel))⟩
theorem fp_N_11 : hv_fp "NetworkOrders" "<init>" 11 4 0 (.array (.object "NetworkOrders$Tensor")) := ⟨RX4, TX4, 13, tyX4, cl_4, by decide, rfl, Or.inr ⟨rfl, rfl, rfl, hv_mem 216 (by decide +kernel) (by decide +kernel)⟩⟩
theorem fl_N_16 : hv_fl "NetworkOrders" 16 4 1 (.array .int) := ⟨RX4, TX4, 13, tyX4, cl_4, by decide, rfl, Or.inl (hv_mem 217 (by decide +kernel) (by decide +kernel))⟩
theorem fp_N_16 : hv_fp "NetworkOrders" "<init>" 16 4 1 (.array .int) := ⟨RX4, TX4, 13, tyX4, cl_4, by decide, rfl, Or.inr ⟨rfl, rfl, rfl, hv_mem 217 (by decide +kernel) (by decide +kernel)⟩⟩
theorem fl_N_20 : hv_fl "NetworkOrders" 20 4 2 (.array .int) := ⟨RX4, TX4, 13, tyX4, cl_4, by decide, rfl, Or.inl (hv_mem 218 (by decide +kernel) (by decide +kernel))⟩
theorem fp_N_20 : hv_fp "NetworkOrders" "<init>" 20 4 2 (.array .int) := ⟨RX4, TX4, 13, tyX4, cl_4, by decide, rfl, Or.inr ⟨rfl, rfl, rfl, hv_mem 218 (by decide +kernel) (by decide +kernel)⟩⟩
theorem fl_N_23 : hv_fl "NetworkOrders" 23 4 3 (.array .int) := ⟨RX4, TX4, 13, tyX4, cl_4, by decide, rfl, Or.inl (hv_mem 219 (by decide +kernel) (by decide +kernel))⟩
theorem fp_N_23 : hv_fp "NetworkOrders" "<init>" 23 4 3 (.array .int) := ⟨RX4, TX4, 13, tyX4, cl_4, by decide, rfl, Or.inr ⟨rfl, rfl, rfl, hv_mem 219 (by decide +kernel) (by decide +kernel)⟩⟩
theorem fl_N_29 : hv_fl "NetworkOrders" 29 4 4 (.object "NetworkOrders$Order") := ⟨RX4, TX4, 13, tyX4, cl_4, by decide, rfl, Or.inl (hv_mem 220 (by decide +kernel) (by decide +kernel))⟩
theorem fp_N_29 : hv_fp "NetworkOrders" "<init>" 29 4 4 (.object "NetworkOrders$Order") := ⟨RX4, TX4, 13, tyX4, cl_4, by decide, rfl, Or.inr ⟨rfl, rfl, rfl, hv_mem 220 (by decide +kernel) (by decide +kernel)⟩⟩
theorem fl_N_33 : hv_fl "NetworkOrders" 33 4 5 (.object "NetworkOrders$Order") := ⟨RX4, TX4, 13, tyX4, cl_4, by decide, rfl, Or.inl (hv_mem 221 (by decide +kernel) (by decide +kernel))⟩
theorem fp_N_33 : hv_fp "NetworkOrders" "<init>" 33 4 5 (.object "NetworkOrders$Order") := ⟨RX4, TX4, 13, tyX4, cl_4, by decide, rfl, Or.inr ⟨rfl, rfl, rfl, hv_mem 221 (by decide +kernel) (by decide +kernel)⟩⟩
theorem fl_N_39 : hv_fl "NetworkOrders" 39 4 6 (.object "NetworkOrders$GreedyRun") := ⟨RX4, TX4, 13, tyX4, cl_4, by decide, rfl, Or.inl (hv_mem 222 (by decide +kernel) (by decide +kernel))⟩
theorem fp_N_39 : hv_fp "NetworkOrders" "<init>" 39 4 6 (.object "NetworkOrders$GreedyRun") := ⟨RX4, TX4, 13, tyX4, cl_4, by decide, rfl, Or.inr ⟨rfl, rfl, rfl, hv_mem 222 (by decide +kernel) (by decide +kernel)⟩⟩
theorem fl_N_46 : hv_fl "NetworkOrders" 46 4 7 (.object "NetworkOrders$Contraction") := ⟨RX4, TX4, 13, tyX4, cl_4, by decide, rfl, Or.inl (hv_mem 223 (by decide +kernel) (by decide +kernel))⟩
theorem fp_N_46 : hv_fp "NetworkOrders" "<init>" 46 4 7 (.object "NetworkOrders$Contraction") := ⟨RX4, TX4, 13, tyX4, cl_4, by decide, rfl, Or.inr ⟨rfl, rfl, rfl, hv_mem 223 (by decide +kernel) (by decide +kernel)⟩⟩
theorem fl_N_53 : hv_fl "NetworkOrders" 53 4 8 .int := ⟨RX4, TX4, 13, tyX4, cl_4, by decide, rfl, Or.inl (hv_mem 224 (by decide +kernel) (by decide +kernel))⟩
theorem fp_N_53 {mn : String} : hv_fp "NetworkOrders" mn 53 4 8 .int := ⟨RX4, TX4, 13, tyX4, cl_4, by decide, rfl, Or.inl ⟨rfl, Or.inl (hv_mem 224 (by decide +kernel) (by decide +kernel))⟩⟩
theorem fl_N_61 : hv_fl "NetworkOrders" 61 4 9 .int := ⟨RX4, TX4, 13, tyX4, cl_4, by decide, rfl, Or.inl (hv_mem 225 (by decide +kernel) (by decide +kernel))⟩
theorem fp_N_61 {mn : String} : hv_fp "NetworkOrders" mn 61 4 9 .int := ⟨RX4, TX4, 13, tyX4, cl_4, by decide, rfl, Or.inl ⟨rfl, Or.inl (hv_mem 225 (by decide +kernel) (by decide +kernel))⟩⟩
theorem fl_N_64 : hv_fl "NetworkOrders" 64 4 10 .int := ⟨RX4, TX4, 13, tyX4, cl_4, by decide, rfl, Or.inl (hv_mem 226 (by decide +kernel) (by decide +kernel))⟩
theorem fp_N_64 {mn : String} : hv_fp "NetworkOrders" mn 64 4 10 .int := ⟨RX4, TX4, 13, tyX4, cl_4, by decide, rfl, Or.inl ⟨rfl, Or.inl (hv_mem 226 (by decide +kernel) (by decide +kernel))⟩⟩
theorem fl_N_180 : hv_fl "NetworkOrders" 180 4 11 .boolean := ⟨RX4, TX4, 13, tyX4, cl_4, by decide, rfl, Or.inl (hv_mem 227 (by decide +kernel) (by decide +kernel))⟩
theorem fp_N_180 {mn : String} : hv_fp "NetworkOrders" mn 180 4 11 .boolean := ⟨RX4, TX4, 13, tyX4, cl_4, by decide, rfl, Or.inl ⟨rfl, Or.inl (hv_mem 227 (by decide +kernel) (by decide +kernel))⟩⟩
theorem fl_N_184 : hv_fl "NetworkOrders" 184 4 12 .int := ⟨RX4, TX4, 13, tyX4, cl_4, by decide, rfl, Or.inl (hv_mem 228 (by decide +kernel) (by decide +kernel))⟩
theorem fp_N_184 {mn : String} : hv_fp "NetworkOrders" mn 184 4 12 .int := ⟨RX4, TX4, 13, tyX4, cl_4, by decide, rfl, Or.inl ⟨rfl, Or.inl (hv_mem 228 (by decide +kernel) (by decide +kernel))⟩⟩
theorem fl_K_69 : hv_fl "NetworkOrdersModel" 69 5 0 .int := ⟨RX5, TX5, 31, tyX5, cl_5, by decide, rfl, Or.inl (hv_mem 597 (by decide +kernel) (by decide +kernel))⟩
theorem fp_K_69 {mn : String} : hv_fp "NetworkOrdersModel" mn 69 5 0 .int := ⟨RX5, TX5, 31, tyX5, cl_5, by decide, rfl, Or.inl ⟨rfl, Or.inl (hv_mem 597 (by decide +kernel) (by decide +kernel))⟩⟩
theorem fl_K_73 : hv_fl "NetworkOrdersModel" 73 5 1 .int := ⟨RX5, TX5, 31, tyX5, cl_5, by decide, rfl, Or.inl (hv_mem 598 (by decide +kernel) (by decide +kernel))⟩
theorem fp_K_73 {mn : String} : hv_fp "NetworkOrdersModel" mn 73 5 1 .int := ⟨RX5, TX5, 31, tyX5, cl_5, by decide, rfl, Or.inl ⟨rfl, Or.inl (hv_mem 598 (by decide +kernel) (by decide +kernel))⟩⟩
theorem fl_K_7 : hv_fl "NetworkOrdersModel" 7 5 2 (.array .int) := ⟨RX5, TX5, 31, tyX5, cl_5, by decide, rfl, Or.inl (hv_mem 599 (by decide +kernel) (by decide +kernel))⟩
theorem fp_K_7 : hv_fp "NetworkOrdersModel" "<init>" 7 5 2 (.array .int) := ⟨RX5, TX5, 31, tyX5, cl_5, by decide, rfl, Or.inr ⟨rfl, rfl, rfl, hv_mem 599 (by decide +kernel) (by decide +kernel)⟩⟩
theorem fl_K_13 : hv_fl "NetworkOrdersModel" 13 5 3 (.array .int) := ⟨RX5, TX5, 31, tyX5, cl_5, by decide, rfl, Or.inl (hv_mem 600 (by decide +kernel) (by decide +kernel))⟩
theorem fp_K_13 : hv_fp "NetworkOrdersModel" "<init>" 13 5 3 (.array .int) := ⟨RX5, TX5, 31, tyX5, cl_5, by decide, rfl, Or.inr ⟨rfl, rfl, rfl, hv_mem 600 (by decide +kernel) (by decide +kernel)⟩⟩
theorem fl_K_16 : hv_fl "NetworkOrdersModel" 16 5 4 (.array .int) := ⟨RX5, TX5, 31, tyX5, cl_5, by decide, rfl, Or.inl (hv_mem 601 (by decide +kernel) (by decide +kernel))⟩
theorem fp_K_16 : hv_fp "NetworkOrdersModel" "<init>" 16 5 4 (.array .int) := ⟨RX5, TX5, 31, tyX5, cl_5, by decide, rfl, Or.inr ⟨rfl, rfl, rfl, hv_mem 601 (by decide +kernel) (by decide +kernel)⟩⟩
theorem fl_K_19 : hv_fl "NetworkOrdersModel" 19 5 5 (.array .int) := ⟨RX5, TX5, 31, tyX5, cl_5, by decide, rfl, Or.inl (hv_mem 602 (by decide +kernel) (by decide +kernel))⟩
theorem fp_K_19 : hv_fp "NetworkOrdersModel" "<init>" 19 5 5 (.array .int) := ⟨RX5, TX5, 31, tyX5, cl_5, by decide, rfl, Or.inr ⟨rfl, rfl, rfl, hv_mem 602 (by decide +kernel) (by decide +kernel)⟩⟩
theorem fl_K_84 : hv_fl "NetworkOrdersModel" 84 5 6 .int := ⟨RX5, TX5, 31, tyX5, cl_5, by decide, rfl, Or.inl (hv_mem 603 (by decide +kernel) (by decide +kernel))⟩
theorem fp_K_84 {mn : String} : hv_fp "NetworkOrdersModel" mn 84 5 6 .int := ⟨RX5, TX5, 31, tyX5, cl_5, by decide, rfl, Or.inl ⟨rfl, Or.inl (hv_mem 603 (by decide +kernel) (by decide +kernel))⟩⟩
theorem fl_K_87 : hv_fl "NetworkOrdersModel" 87 5 7 .int := ⟨RX5, TX5, 31, tyX5, cl_5, by decide, rfl, Or.inl (hv_mem 604 (by decide +kernel) (by decide +kernel))⟩
theorem fp_K_87 {mn : String} : hv_fp "NetworkOrdersModel" mn 87 5 7 .int := ⟨RX5, TX5, 31, tyX5, cl_5, by decide, rfl, Or.inl ⟨rfl, Or.inl (hv_mem 604 (by decide +kernel) (by decide +kernel))⟩⟩
theorem fl_K_22 : hv_fl "NetworkOrdersModel" 22 5 8 (.array .int) := ⟨RX5, TX5, 31, tyX5, cl_5, by decide, rfl, Or.inl (hv_mem 605 (by decide +kernel) (by decide +kernel))⟩
theorem fp_K_22 : hv_fp "NetworkOrdersModel" "<init>" 22 5 8 (.array .int) := ⟨RX5, TX5, 31, tyX5, cl_5, by decide, rfl, Or.inr ⟨rfl, rfl, rfl, hv_mem 605 (by decide +kernel) (by decide +kernel)⟩⟩
theorem fl_K_25 : hv_fl "NetworkOrdersModel" 25 5 9 (.array .int) := ⟨RX5, TX5, 31, tyX5, cl_5, by decide, rfl, Or.inl (hv_mem 606 (by decide +kernel) (by decide +kernel))⟩
theorem fp_K_25 : hv_fp "NetworkOrdersModel" "<init>" 25 5 9 (.array .int) := ⟨RX5, TX5, 31, tyX5, cl_5, by decide, rfl, Or.inr ⟨rfl, rfl, rfl, hv_mem 606 (by decide +kernel) (by decide +kernel)⟩⟩
theorem fl_K_28 : hv_fl "NetworkOrdersModel" 28 5 10 (.array .int) := ⟨RX5, TX5, 31, tyX5, cl_5, by decide, rfl, Or.inl (hv_mem 607 (by decide +kernel) (by decide +kernel))⟩
theorem fp_K_28 : hv_fp "NetworkOrdersModel" "<init>" 28 5 10 (.array .int) := ⟨RX5, TX5, 31, tyX5, cl_5, by decide, rfl, Or.inr ⟨rfl, rfl, rfl, hv_mem 607 (by decide +kernel) (by decide +kernel)⟩⟩
theorem fl_K_31 : hv_fl "NetworkOrdersModel" 31 5 11 (.array .int) := ⟨RX5, TX5, 31, tyX5, cl_5, by decide, rfl, Or.inl (hv_mem 608 (by decide +kernel) (by decide +kernel))⟩
theorem fp_K_31 : hv_fp "NetworkOrdersModel" "<init>" 31 5 11 (.array .int) := ⟨RX5, TX5, 31, tyX5, cl_5, by decide, rfl, Or.inr ⟨rfl, rfl, rfl, hv_mem 608 (by decide +kernel) (by decide +kernel)⟩⟩
theorem fl_K_106 : hv_fl "NetworkOrdersModel" 106 5 12 .int := ⟨RX5, TX5, 31, tyX5, cl_5, by decide, rfl, Or.inl (hv_mem 609 (by decide +kernel) (by decide +kernel))⟩
theorem fp_K_106 {mn : String} : hv_fp "NetworkOrdersModel" mn 106 5 12 .int := ⟨RX5, TX5, 31, tyX5, cl_5, by decide, rfl, Or.inl ⟨rfl, Or.inl (hv_mem 609 (by decide +kernel) (by decide +kernel))⟩⟩
theorem fl_K_34 : hv_fl "NetworkOrdersModel" 34 5 13 (.array .int) := ⟨RX5, TX5, 31, tyX5, cl_5, by decide, rfl, Or.inl (hv_mem 610 (by decide +kernel) (by decide +kernel))⟩
theorem fp_K_34 : hv_fp "NetworkOrdersModel" "<init>" 34 5 13 (.array .int) := ⟨RX5, TX5, 31, tyX5, cl_5, by decide, rfl, Or.inr ⟨rfl, rfl, rfl, hv_mem 610 (by decide +kernel) (by decide +kernel)⟩⟩
theorem fl_K_37 : hv_fl "NetworkOrdersModel" 37 5 14 (.array .int) := ⟨RX5, TX5, 31, tyX5, cl_5, by decide, rfl, Or.inl (hv_mem 611 (by decide +kernel) (by decide +kernel))⟩
theorem fp_K_37 : hv_fp "NetworkOrdersModel" "<init>" 37 5 14 (.array .int) := ⟨RX5, TX5, 31, tyX5, cl_5, by decide, rfl, Or.inr ⟨rfl, rfl, rfl, hv_mem 611 (by decide +kernel) (by decide +kernel)⟩⟩
theorem fl_K_40 : hv_fl "NetworkOrdersModel" 40 5 15 (.array .int) := ⟨RX5, TX5, 31, tyX5, cl_5, by decide, rfl, Or.inl (hv_mem 612 (by decide +kernel) (by decide +kernel))⟩
theorem fp_K_40 : hv_fp "NetworkOrdersModel" "<init>" 40 5 15 (.array .int) := ⟨RX5, TX5, 31, tyX5, cl_5, by decide, rfl, Or.inr ⟨rfl, rfl, rfl, hv_mem 612 (by decide +kernel) (by decide +kernel)⟩⟩
theorem fl_K_43 : hv_fl "NetworkOrdersModel" 43 5 16 (.array .boolean) := ⟨RX5, TX5, 31, tyX5, cl_5, by decide, rfl, Or.inl (hv_mem 613 (by decide +kernel) (by decide +kernel))⟩
theorem fp_K_43 : hv_fp "NetworkOrdersModel" "<init>" 43 5 16 (.array .boolean) := ⟨RX5, TX5, 31, tyX5, cl_5, by decide, rfl, Or.inr ⟨rfl, rfl, rfl, hv_mem 613 (by decide +kernel) (by decide +kernel)⟩⟩
theorem fl_K_47 : hv_fl "NetworkOrdersModel" 47 5 17 (.array .int) := ⟨RX5, TX5, 31, tyX5, cl_5, by decide, rfl, Or.inl (hv_mem 614 (by decide +kernel) (by decide +kernel))⟩
theorem fp_K_47 : hv_fp "NetworkOrdersModel" "<init>" 47 5 17 (.array .int) := ⟨RX5, TX5, 31, tyX5, cl_5, by decide, rfl, Or.inr ⟨rfl, rfl, rfl, hv_mem 614 (by decide +kernel) (by decide +kernel)⟩⟩
theorem fl_K_50 : hv_fl "NetworkOrdersModel" 50 5 18 (.array .int) := ⟨RX5, TX5, 31, tyX5, cl_5, by decide, rfl, Or.inl (hv_mem 615 (by decide +kernel) (by decide +kernel))⟩
theorem fp_K_50 : hv_fp "NetworkOrdersModel" "<init>" 50 5 18 (.array .int) := ⟨RX5, TX5, 31, tyX5, cl_5, by decide, rfl, Or.inr ⟨rfl, rfl, rfl, hv_mem 615 (by decide +kernel) (by decide +kernel)⟩⟩
theorem fl_K_129 : hv_fl "NetworkOrdersModel" 129 5 19 .int := ⟨RX5, TX5, 31, tyX5, cl_5, by decide, rfl, Or.inl (hv_mem 616 (by decide +kernel) (by decide +kernel))⟩
theorem fp_K_129 {mn : String} : hv_fp "NetworkOrdersModel" mn 129 5 19 .int := ⟨RX5, TX5, 31, tyX5, cl_5, by decide, rfl, Or.inl ⟨rfl, Or.inl (hv_mem 616 (by decide +kernel) (by decide +kernel))⟩⟩
theorem fl_K_126 : hv_fl "NetworkOrdersModel" 126 5 20 .int := ⟨RX5, TX5, 31, tyX5, cl_5, by decide, rfl, Or.inl (hv_mem 617 (by decide +kernel) (by decide +kernel))⟩
theorem fp_K_126 {mn : String} : hv_fp "NetworkOrdersModel" mn 126 5 20 .int := ⟨RX5, TX5, 31, tyX5, cl_5, by decide, rfl, Or.inl ⟨rfl, Or.inl (hv_mem 617 (by decide +kernel) (by decide +kernel))⟩⟩
theorem fl_K_53 : hv_fl "NetworkOrdersModel" 53 5 21 (.array .int) := ⟨RX5, TX5, 31, tyX5, cl_5, by decide, rfl, Or.inl (hv_mem 618 (by decide +kernel) (by decide +kernel))⟩
theorem fp_K_53 : hv_fp "NetworkOrdersModel" "<init>" 53 5 21 (.array .int) := ⟨RX5, TX5, 31, tyX5, cl_5, by decide, rfl, Or.inr ⟨rfl, rfl, rfl, hv_mem 618 (by decide +kernel) (by decide +kernel)⟩⟩
theorem fl_K_56 : hv_fl "NetworkOrdersModel" 56 5 22 (.array .int) := ⟨RX5, TX5, 31, tyX5, cl_5, by decide, rfl, Or.inl (hv_mem 619 (by decide +kernel) (by decide +kernel))⟩
theorem fp_K_56 : hv_fp "NetworkOrdersModel" "<init>" 56 5 22 (.array .int) := ⟨RX5, TX5, 31, tyX5, cl_5, by decide, rfl, Or.inr ⟨rfl, rfl, rfl, hv_mem 619 (by decide +kernel) (by decide +kernel)⟩⟩
theorem fl_K_135 : hv_fl "NetworkOrdersModel" 135 5 23 .int := ⟨RX5, TX5, 31, tyX5, cl_5, by decide, rfl, Or.inl (hv_mem 620 (by decide +kernel) (by decide +kernel))⟩
theorem fp_K_135 {mn : String} : hv_fp "NetworkOrdersModel" mn 135 5 23 .int := ⟨RX5, TX5, 31, tyX5, cl_5, by decide, rfl, Or.inl ⟨rfl, Or.inl (hv_mem 620 (by decide +kernel) (by decide +kernel))⟩⟩
theorem fl_K_59 : hv_fl "NetworkOrdersModel" 59 5 24 (.array .int) := ⟨RX5, TX5, 31, tyX5, cl_5, by decide, rfl, Or.inl (hv_mem 621 (by decide +kernel) (by decide +kernel))⟩
theorem fp_K_59 : hv_fp "NetworkOrdersModel" "<init>" 59 5 24 (.array .int) := ⟨RX5, TX5, 31, tyX5, cl_5, by decide, rfl, Or.inr ⟨rfl, rfl, rfl, hv_mem 621 (by decide +kernel) (by decide +kernel)⟩⟩
theorem fl_K_62 : hv_fl "NetworkOrdersModel" 62 5 25 (.array .long) := ⟨RX5, TX5, 31, tyX5, cl_5, by decide, rfl, Or.inl (hv_mem 622 (by decide +kernel) (by decide +kernel))⟩
theorem fp_K_62 : hv_fp "NetworkOrdersModel" "<init>" 62 5 25 (.array .long) := ⟨RX5, TX5, 31, tyX5, cl_5, by decide, rfl, Or.inr ⟨rfl, rfl, rfl, hv_mem 622 (by decide +kernel) (by decide +kernel)⟩⟩
theorem fl_K_66 : hv_fl "NetworkOrdersModel" 66 5 26 (.array .long) := ⟨RX5, TX5, 31, tyX5, cl_5, by decide, rfl, Or.inl (hv_mem 623 (by decide +kernel) (by decide +kernel))⟩
theorem fp_K_66 : hv_fp "NetworkOrdersModel" "<init>" 66 5 26 (.array .long) := ⟨RX5, TX5, 31, tyX5, cl_5, by decide, rfl, Or.inr ⟨rfl, rfl, rfl, hv_mem 623 (by decide +kernel) (by decide +kernel)⟩⟩
theorem fl_K_150 : hv_fl "NetworkOrdersModel" 150 5 27 .long := ⟨RX5, TX5, 31, tyX5, cl_5, by decide, rfl, Or.inl (hv_mem 624 (by decide +kernel) (by decide +kernel))⟩
theorem fp_K_150 {mn : String} : hv_fp "NetworkOrdersModel" mn 150 5 27 .long := ⟨RX5, TX5, 31, tyX5, cl_5, by decide, rfl, Or.inl ⟨rfl, Or.inl (hv_mem 624 (by decide +kernel) (by decide +kernel))⟩⟩
theorem fl_K_154 : hv_fl "NetworkOrdersModel" 154 5 28 .long := ⟨RX5, TX5, 31, tyX5, cl_5, by decide, rfl, Or.inl (hv_mem 625 (by decide +kernel) (by decide +kernel))⟩
theorem fp_K_154 {mn : String} : hv_fp "NetworkOrdersModel" mn 154 5 28 .long := ⟨RX5, TX5, 31, tyX5, cl_5, by decide, rfl, Or.inl ⟨rfl, Or.inl (hv_mem 625 (by decide +kernel) (by decide +kernel))⟩⟩
theorem fl_K_141 : hv_fl "NetworkOrdersModel" 141 5 29 .int := ⟨RX5, TX5, 31, tyX5, cl_5, by decide, rfl, Or.inl (hv_mem 626 (by decide +kernel) (by decide +kernel))⟩
theorem fp_K_141 {mn : String} : hv_fp "NetworkOrdersModel" mn 141 5 29 .int := ⟨RX5, TX5, 31, tyX5, cl_5, by decide, rfl, Or.inl ⟨rfl, Or.inl (hv_mem 626 (by decide +kernel) (by decide +kernel))⟩⟩
theorem fl_K_144 : hv_fl "NetworkOrdersModel" 144 5 30 .int := ⟨RX5, TX5, 31, tyX5, cl_5, by decide, rfl, Or.inl (hv_mem 627 (by decide +kernel) (by decide +kernel))⟩
theorem fp_K_144 {mn : String} : hv_fp "NetworkOrdersModel" mn 144 5 30 .int := ⟨RX5, TX5, 31, tyX5, cl_5, by decide, rfl, Or.inl ⟨rfl, Or.inl (hv_mem 627 (by decide +kernel) (by decide +kernel))⟩⟩
theorem fl_N_74 : hv_fl "NetworkOrders" 74 3 0 (.array .int) := ⟨RX3, TX3, 5, tyX3, cl_3, by decide, rfl, Or.inr ⟨"NetworkOrders", hv_memN 87 (by decide +kernel) (by decide +kernel)⟩⟩
theorem fl_N_91 : hv_fl "NetworkOrders" 91 3 1 (.array .int) := ⟨RX3, TX3, 5, tyX3, cl_3, by decide, rfl, Or.inr ⟨"NetworkOrders", hv_memN 89 (by decide +kernel) (by decide +kernel)⟩⟩
theorem fl_C_77 : hv_fl "NetworkOrders$Contraction" 77 3 1 (.array .int) := ⟨RX3, TX3, 5, tyX3, cl_3, by decide, rfl, Or.inr ⟨"NetworkOrders", hv_memN 90 (by decide +kernel) (by decide +kernel)⟩⟩
theorem fl_N_94 : hv_fl "NetworkOrders" 94 3 2 (.array .int) := ⟨RX3, TX3, 5, tyX3, cl_3, by decide, rfl, Or.inr ⟨"NetworkOrders", hv_memN 92 (by decide +kernel) (by decide +kernel)⟩⟩
theorem fl_C_79 : hv_fl "NetworkOrders$Contraction" 79 3 2 (.array .int) := ⟨RX3, TX3, 5, tyX3, cl_3, by decide, rfl, Or.inr ⟨"NetworkOrders", hv_memN 93 (by decide +kernel) (by decide +kernel)⟩⟩
theorem fl_N_71 : hv_fl "NetworkOrders" 71 3 3 .int := ⟨RX3, TX3, 5, tyX3, cl_3, by decide, rfl, Or.inr ⟨"NetworkOrders", hv_memN 95 (by decide +kernel) (by decide +kernel)⟩⟩
theorem fp_N_71 {mn : String} : hv_fp "NetworkOrders" mn 71 3 3 .int := ⟨RX3, TX3, 5, tyX3, cl_3, by decide, rfl, Or.inl ⟨rfl, Or.inr ⟨"NetworkOrders", hv_memN 95 (by decide +kernel) (by decide +kernel)⟩⟩⟩
theorem fl_C_72 : hv_fl "NetworkOrders$Contraction" 72 3 3 .int := ⟨RX3, TX3, 5, tyX3, cl_3, by decide, rfl, Or.inr ⟨"NetworkOrders", hv_memN 96 (by decide +kernel) (by decide +kernel)⟩⟩
theorem fp_C_72 {mn : String} : hv_fp "NetworkOrders$Contraction" mn 72 3 3 .int := ⟨RX3, TX3, 5, tyX3, cl_3, by decide, rfl, Or.inl ⟨rfl, Or.inr ⟨"NetworkOrders", hv_memN 96 (by decide +kernel) (by decide +kernel)⟩⟩⟩
theorem fl_N_177 : hv_fl "NetworkOrders" 177 3 4 .int := ⟨RX3, TX3, 5, tyX3, cl_3, by decide, rfl, Or.inr ⟨"NetworkOrders", hv_memN 98 (by decide +kernel) (by decide +kernel)⟩⟩
theorem fp_N_177 {mn : String} : hv_fp "NetworkOrders" mn 177 3 4 .int := ⟨RX3, TX3, 5, tyX3, cl_3, by decide, rfl, Or.inl ⟨rfl, Or.inr ⟨"NetworkOrders", hv_memN 98 (by decide +kernel) (by decide +kernel)⟩⟩⟩
theorem fl_C_41 : hv_fl "NetworkOrders$Contraction" 41 2 0 (.array .int) := ⟨RX2, TX2, 7, tyX2, cl_2, by decide, rfl, Or.inr ⟨"NetworkOrders", hv_memN 118 (by decide +kernel) (by decide +kernel)⟩⟩
theorem fl_C_87 : hv_fl "NetworkOrders$Contraction" 87 2 2 (.array .int) := ⟨RX2, TX2, 7, tyX2, cl_2, by decide, rfl, Or.inr ⟨"NetworkOrders", hv_memN 121 (by decide +kernel) (by decide +kernel)⟩⟩
theorem fl_N_141 : hv_fl "NetworkOrders" 141 2 2 (.array .int) := ⟨RX2, TX2, 7, tyX2, cl_2, by decide, rfl, Or.inr ⟨"NetworkOrders", hv_memN 122 (by decide +kernel) (by decide +kernel)⟩⟩
theorem fl_C_52 : hv_fl "NetworkOrders$Contraction" 52 2 3 (.array .int) := ⟨RX2, TX2, 7, tyX2, cl_2, by decide, rfl, Or.inr ⟨"NetworkOrders", hv_memN 124 (by decide +kernel) (by decide +kernel)⟩⟩
theorem fl_N_138 : hv_fl "NetworkOrders" 138 2 3 (.array .int) := ⟨RX2, TX2, 7, tyX2, cl_2, by decide, rfl, Or.inr ⟨"NetworkOrders", hv_memN 125 (by decide +kernel) (by decide +kernel)⟩⟩
theorem fl_N_132 : hv_fl "NetworkOrders" 132 2 5 .int := ⟨RX2, TX2, 7, tyX2, cl_2, by decide, rfl, Or.inr ⟨"NetworkOrders", hv_memN 128 (by decide +kernel) (by decide +kernel)⟩⟩
theorem fp_N_132 {mn : String} : hv_fp "NetworkOrders" mn 132 2 5 .int := ⟨RX2, TX2, 7, tyX2, cl_2, by decide, rfl, Or.inl ⟨rfl, Or.inr ⟨"NetworkOrders", hv_memN 128 (by decide +kernel) (by decide +kernel)⟩⟩⟩
theorem fl_N_135 : hv_fl "NetworkOrders" 135 2 6 .int := ⟨RX2, TX2, 7, tyX2, cl_2, by decide, rfl, Or.inr ⟨"NetworkOrders", hv_memN 130 (by decide +kernel) (by decide +kernel)⟩⟩
theorem fp_N_135 {mn : String} : hv_fp "NetworkOrders" mn 135 2 6 .int := ⟨RX2, TX2, 7, tyX2, cl_2, by decide, rfl, Or.inl ⟨rfl, Or.inr ⟨"NetworkOrders", hv_memN 130 (by decide +kernel) (by decide +kernel)⟩⟩⟩
theorem fl_N_151 : hv_fl "NetworkOrders" 151 1 2 (.array .int) := ⟨RX1, TX1, 6, tyX1, cl_1, by decide, rfl, Or.inr ⟨"NetworkOrders", hv_memN 155 (by decide +kernel) (by decide +kernel)⟩⟩
theorem fl_N_154 : hv_fl "NetworkOrders" 154 1 3 (.array .int) := ⟨RX1, TX1, 6, tyX1, cl_1, by decide, rfl, Or.inr ⟨"NetworkOrders", hv_memN 157 (by decide +kernel) (by decide +kernel)⟩⟩
theorem fl_N_150 : hv_fl "NetworkOrders" 150 1 5 .int := ⟨RX1, TX1, 6, tyX1, cl_1, by decide, rfl, Or.inr ⟨"NetworkOrders", hv_memN 160 (by decide +kernel) (by decide +kernel)⟩⟩
theorem fp_N_150 {mn : String} : hv_fp "NetworkOrders" mn 150 1 5 .int := ⟨RX1, TX1, 6, tyX1, cl_1, by decide, rfl, Or.inl ⟨rfl, Or.inr ⟨"NetworkOrders", hv_memN 160 (by decide +kernel) (by decide +kernel)⟩⟩⟩
abbrev M_N_init : hv_M := (⟨"NetworkOrders", "<init>", "()V"⟩, prog_1_method_1_code, 2, none)
theorem mB_N_init : hv_mB M_N_init 0 := ⟨hv_mem 57 (by decide +kernel) (by decide +kernel), hv_mem 75 (by decide +kernel) (by decide +kernel), (by decide +kernel), (by decide +kernel)⟩
theorem mi_N_init : Cond.instanceMethod M_N_init.1 ∈ hv_tbl := hv_mem 74 (by decide +kernel) (by decide +kernel)
abbrev M_T_init : hv_M := (⟨"NetworkOrders$Tensor", "<init>", "()V"⟩, prog_5_method_1_code, 1, none)
theorem mB_T_init : hv_mB M_T_init 0 := ⟨hv_mem 58 (by decide +kernel) (by decide +kernel), hv_mem 84 (by decide +kernel) (by decide +kernel), (by decide +kernel), (by decide +kernel)⟩
theorem mi_T_init : Cond.instanceMethod M_T_init.1 ∈ hv_tbl := hv_mem 83 (by decide +kernel) (by decide +kernel)
abbrev M_O_init : hv_M := (⟨"NetworkOrders$Order", "<init>", "()V"⟩, prog_4_method_1_code, 1, none)
theorem mB_O_init : hv_mB M_O_init 0 := ⟨hv_mem 59 (by decide +kernel) (by decide +kernel), hv_mem 115 (by decide +kernel) (by decide +kernel), (by decide +kernel), (by decide +kernel)⟩
theorem mi_O_init : Cond.instanceMethod M_O_init.1 ∈ hv_tbl := hv_mem 114 (by decide +kernel) (by decide +kernel)
abbrev M_G_init : hv_M := (⟨"NetworkOrders$GreedyRun", "<init>", "()V"⟩, prog_3_method_1_code, 1, none)
theorem mB_G_init : hv_mB M_G_init 0 := ⟨hv_mem 60 (by decide +kernel) (by decide +kernel), hv_mem 150 (by decide +kernel) (by decide +kernel), (by decide +kernel), (by decide +kernel)⟩
theorem mi_G_init : Cond.instanceMethod M_G_init.1 ∈ hv_tbl := hv_mem 149 (by decide +kernel) (by decide +kernel)
abbrev M_C_init : hv_M := (⟨"NetworkOrders$Contraction", "<init>", "()V"⟩, prog_2_method_1_code, 1, none)
theorem mB_C_init : hv_mB M_C_init 0 := ⟨hv_mem 61 (by decide +kernel) (by decide +kernel), hv_mem 178 (by decide +kernel) (by decide +kernel), (by decide +kernel), (by decide +kernel)⟩
theorem mi_C_init : Cond.instanceMethod M_C_init.1 ∈ hv_tbl := hv_mem 177 (by decide +kernel) (by decide +kernel)
abbrev M_N_forgetOrders : hv_M := (⟨"NetworkOrders", "forgetOrders", "()V"⟩, prog_1_method_23_code, 1, none)
theorem mB_N_forgetOrders : hv_mB M_N_forgetOrders 0 := ⟨hv_mem 57 (by decide +kernel) (by decide +kernel), hv_mem 212 (by decide +kernel) (by decide +kernel), (by decide +kernel), (by decide +kernel)⟩
theorem mi_N_forgetOrders : Cond.instanceMethod M_N_forgetOrders.1 ∈ hv_tbl := hv_mem 211 (by decide +kernel) (by decide +kernel)
theorem mv_N_forgetOrders : Cond.selects M_N_forgetOrders.1.cls M_N_forgetOrders.1 M_N_forgetOrders.1 ∈ hv_tbl := hv_mem 0 (by decide +kernel) (by decide +kernel)
abbrev M_JA_fill : hv_M := (⟨"java/util/Arrays", "fill", "([II)V"⟩, prog_15_method_103_code, 4, none)
theorem mB_JA_fill : hv_mB M_JA_fill 2 := ⟨hv_mem 62 (by decide +kernel) (by decide +kernel), hv_mem 215 (by decide +kernel) (by decide +kernel), (by decide +kernel), (by decide +kernel)⟩
theorem ms_JA_fill : Cond.static M_JA_fill.1 ∈ hv_tbl := hv_mem 214 (by decide +kernel) (by decide +kernel)
abbrev M_N_tensor : hv_M := (⟨"NetworkOrders", "tensor", "(I)I"⟩, prog_1_method_2_code, 2, some .int)
theorem mB_N_tensor : hv_mB M_N_tensor 1 := ⟨hv_mem 57 (by decide +kernel) (by decide +kernel), hv_mem 259 (by decide +kernel) (by decide +kernel), (by decide +kernel), (by decide +kernel)⟩
theorem mi_N_tensor : Cond.instanceMethod M_N_tensor.1 ∈ hv_tbl := hv_mem 257 (by decide +kernel) (by decide +kernel)
theorem mv_N_tensor : Cond.selects M_N_tensor.1.cls M_N_tensor.1 M_N_tensor.1 ∈ hv_tbl := hv_mem 258 (by decide +kernel) (by decide +kernel)
abbrev M_T_makeNew : hv_M := (⟨"NetworkOrders$Tensor", "makeNew", "(I)V"⟩, prog_5_method_2_code, 2, none)
theorem mB_T_makeNew : hv_mB M_T_makeNew 1 := ⟨hv_mem 58 (by decide +kernel) (by decide +kernel), hv_mem 263 (by decide +kernel) (by decide +kernel), (by decide +kernel), (by decide +kernel)⟩
theorem mi_T_makeNew : Cond.instanceMethod M_T_makeNew.1 ∈ hv_tbl := hv_mem 262 (by decide +kernel) (by decide +kernel)
theorem mv_T_makeNew : Cond.selects M_T_makeNew.1.cls M_T_makeNew.1 M_T_makeNew.1 ∈ hv_tbl := hv_mem 1 (by decide +kernel) (by decide +kernel)
abbrev M_N_leg : hv_M := (⟨"NetworkOrders", "leg", "(III)Z"⟩, prog_1_method_3_code, 5, some .boolean)
theorem mB_N_leg : hv_mB M_N_leg 3 := ⟨hv_mem 57 (by decide +kernel) (by decide +kernel), hv_mem 268 (by decide +kernel) (by decide +kernel), (by decide +kernel), (by decide +kernel)⟩
theorem mi_N_leg : Cond.instanceMethod M_N_leg.1 ∈ hv_tbl := hv_mem 266 (by decide +kernel) (by decide +kernel)
theorem mv_N_leg : Cond.selects M_N_leg.1.cls M_N_leg.1 M_N_leg.1 ∈ hv_tbl := hv_mem 267 (by decide +kernel) (by decide +kernel)
abbrev M_N_isTensor : hv_M := (⟨"NetworkOrders", "isTensor", "(I)Z"⟩, prog_1_method_17_code, 2, some .boolean)
theorem mB_N_isTensor : hv_mB M_N_isTensor 1 := ⟨hv_mem 57 (by decide +kernel) (by decide +kernel), hv_mem 272 (by decide +kernel) (by decide +kernel), (by decide +kernel), (by decide +kernel)⟩
theorem mi_N_isTensor : Cond.instanceMethod M_N_isTensor.1 ∈ hv_tbl := hv_mem 271 (by decide +kernel) (by decide +kernel)
theorem mv_N_isTensor : Cond.selects M_N_isTensor.1.cls M_N_isTensor.1 M_N_isTensor.1 ∈ hv_tbl := hv_mem 2 (by decide +kernel) (by decide +kernel)
abbrev M_N_countUse : hv_M := (⟨"NetworkOrders", "countUse", "(II)V"⟩, prog_1_method_20_code, 3, none)
theorem mB_N_countUse : hv_mB M_N_countUse 2 := ⟨hv_mem 57 (by decide +kernel) (by decide +kernel), hv_mem 276 (by decide +kernel) (by decide +kernel), (by decide +kernel), (by decide +kernel)⟩
theorem mi_N_countUse : Cond.instanceMethod M_N_countUse.1 ∈ hv_tbl := hv_mem 275 (by decide +kernel) (by decide +kernel)
theorem mv_N_countUse : Cond.selects M_N_countUse.1.cls M_N_countUse.1 M_N_countUse.1 ∈ hv_tbl := hv_mem 3 (by decide +kernel) (by decide +kernel)
abbrev M_T_setName : hv_M := (⟨"NetworkOrders$Tensor", "setName", "(II)V"⟩, prog_5_method_3_code, 4, none)
theorem mB_T_setName : hv_mB M_T_setName 2 := ⟨hv_mem 58 (by decide +kernel) (by decide +kernel), hv_mem 280 (by decide +kernel) (by decide +kernel), (by decide +kernel), (by decide +kernel)⟩
theorem mi_T_setName : Cond.instanceMethod M_T_setName.1 ∈ hv_tbl := hv_mem 279 (by decide +kernel) (by decide +kernel)
theorem mv_T_setName : Cond.selects M_T_setName.1.cls M_T_setName.1 M_T_setName.1 ∈ hv_tbl := hv_mem 4 (by decide +kernel) (by decide +kernel)
abbrev M_N_put : hv_M := (⟨"NetworkOrders", "put", "(IIII)Z"⟩, prog_1_method_4_code, 5, some .boolean)
theorem mB_N_put : hv_mB M_N_put 4 := ⟨hv_mem 57 (by decide +kernel) (by decide +kernel), hv_mem 284 (by decide +kernel) (by decide +kernel), (by decide +kernel), (by decide +kernel)⟩
theorem mi_N_put : Cond.instanceMethod M_N_put.1 ∈ hv_tbl := hv_mem 282 (by decide +kernel) (by decide +kernel)
theorem mv_N_put : Cond.selects M_N_put.1.cls M_N_put.1 M_N_put.1 ∈ hv_tbl := hv_mem 283 (by decide +kernel) (by decide +kernel)
abbrev M_N_isEntry : hv_M := (⟨"NetworkOrders", "isEntry", "(II)Z"⟩, prog_1_method_18_code, 3, some .boolean)
theorem mB_N_isEntry : hv_mB M_N_isEntry 2 := ⟨hv_mem 57 (by decide +kernel) (by decide +kernel), hv_mem 288 (by decide +kernel) (by decide +kernel), (by decide +kernel), (by decide +kernel)⟩
theorem mi_N_isEntry : Cond.instanceMethod M_N_isEntry.1 ∈ hv_tbl := hv_mem 287 (by decide +kernel) (by decide +kernel)
theorem mv_N_isEntry : Cond.selects M_N_isEntry.1.cls M_N_isEntry.1 M_N_isEntry.1 ∈ hv_tbl := hv_mem 5 (by decide +kernel) (by decide +kernel)
abbrev M_N_isPart : hv_M := (⟨"NetworkOrders", "isPart", "(I)Z"⟩, prog_1_method_19_code, 1, some .boolean)
theorem mB_N_isPart : hv_mB M_N_isPart 1 := ⟨hv_mem 57 (by decide +kernel) (by decide +kernel), hv_mem 291 (by decide +kernel) (by decide +kernel), (by decide +kernel), (by decide +kernel)⟩
theorem ms_N_isPart : Cond.static M_N_isPart.1 ∈ hv_tbl := hv_mem 290 (by decide +kernel) (by decide +kernel)
abbrev M_N_clear : hv_M := (⟨"NetworkOrders", "clear", "()V"⟩, prog_1_method_5_code, 1, none)
theorem mB_N_clear : hv_mB M_N_clear 0 := ⟨hv_mem 57 (by decide +kernel) (by decide +kernel), hv_mem 295 (by decide +kernel) (by decide +kernel), (by decide +kernel), (by decide +kernel)⟩
theorem mi_N_clear : Cond.instanceMethod M_N_clear.1 ∈ hv_tbl := hv_mem 293 (by decide +kernel) (by decide +kernel)
theorem mv_N_clear : Cond.selects M_N_clear.1.cls M_N_clear.1 M_N_clear.1 ∈ hv_tbl := hv_mem 294 (by decide +kernel) (by decide +kernel)
abbrev M_N_open : hv_M := (⟨"NetworkOrders", "open", "()I"⟩, prog_1_method_6_code, 1, some .int)
theorem mB_N_open : hv_mB M_N_open 0 := ⟨hv_mem 57 (by decide +kernel) (by decide +kernel), hv_mem 299 (by decide +kernel) (by decide +kernel), (by decide +kernel), (by decide +kernel)⟩
theorem mi_N_open : Cond.instanceMethod M_N_open.1 ∈ hv_tbl := hv_mem 297 (by decide +kernel) (by decide +kernel)
theorem mv_N_open : Cond.selects M_N_open.1.cls M_N_open.1 M_N_open.1 ∈ hv_tbl := hv_mem 298 (by decide +kernel) (by decide +kernel)
abbrev M_N_isReady : hv_M := (⟨"NetworkOrders", "isReady", "()Z"⟩, prog_1_method_16_code, 1, some .boolean)
theorem mB_N_isReady : hv_mB M_N_isReady 0 := ⟨hv_mem 57 (by decide +kernel) (by decide +kernel), hv_mem 303 (by decide +kernel) (by decide +kernel), (by decide +kernel), (by decide +kernel)⟩
theorem mi_N_isReady : Cond.instanceMethod M_N_isReady.1 ∈ hv_tbl := hv_mem 302 (by decide +kernel) (by decide +kernel)
theorem mv_N_isReady : Cond.selects M_N_isReady.1.cls M_N_isReady.1 M_N_isReady.1 ∈ hv_tbl := hv_mem 6 (by decide +kernel) (by decide +kernel)
abbrev M_N_namesUsed : hv_M := (⟨"NetworkOrders", "namesUsed", "(I)I"⟩, prog_1_method_21_code, 4, some .int)
theorem mB_N_namesUsed : hv_mB M_N_namesUsed 1 := ⟨hv_mem 57 (by decide +kernel) (by decide +kernel), hv_mem 307 (by decide +kernel) (by decide +kernel), (by decide +kernel), (by decide +kernel)⟩
theorem mi_N_namesUsed : Cond.instanceMethod M_N_namesUsed.1 ∈ hv_tbl := hv_mem 306 (by decide +kernel) (by decide +kernel)
theorem mv_N_namesUsed : Cond.selects M_N_namesUsed.1.cls M_N_namesUsed.1 M_N_namesUsed.1 ∈ hv_tbl := hv_mem 7 (by decide +kernel) (by decide +kernel)
abbrev M_N_cost : hv_M := (⟨"NetworkOrders", "cost", "()I"⟩, prog_1_method_9_code, 1, some .int)
theorem mB_N_cost : hv_mB M_N_cost 0 := ⟨hv_mem 57 (by decide +kernel) (by decide +kernel), hv_mem 311 (by decide +kernel) (by decide +kernel), (by decide +kernel), (by decide +kernel)⟩
theorem mi_N_cost : Cond.instanceMethod M_N_cost.1 ∈ hv_tbl := hv_mem 309 (by decide +kernel) (by decide +kernel)
theorem mv_N_cost : Cond.selects M_N_cost.1.cls M_N_cost.1 M_N_cost.1 ∈ hv_tbl := hv_mem 310 (by decide +kernel) (by decide +kernel)
abbrev M_N_orderOfAll : hv_M := (⟨"NetworkOrders", "orderOfAll", "()LNetworkOrders$Order;"⟩, prog_1_method_26_code, 1, some (.object "NetworkOrders$Order"))
theorem mB_N_orderOfAll : hv_mB M_N_orderOfAll 0 := ⟨hv_mem 57 (by decide +kernel) (by decide +kernel), hv_mem 315 (by decide +kernel) (by decide +kernel), (by decide +kernel), (by decide +kernel)⟩
theorem mi_N_orderOfAll : Cond.instanceMethod M_N_orderOfAll.1 ∈ hv_tbl := hv_mem 314 (by decide +kernel) (by decide +kernel)
theorem mv_N_orderOfAll : Cond.selects M_N_orderOfAll.1.cls M_N_orderOfAll.1 M_N_orderOfAll.1 ∈ hv_tbl := hv_mem 8 (by decide +kernel) (by decide +kernel)
abbrev M_N_findOrder : hv_M := (⟨"NetworkOrders", "findOrder", "(LNetworkOrders$Order;I)V"⟩, prog_1_method_25_code, 3, none)
theorem mB_N_findOrder : hv_mB M_N_findOrder 2 := ⟨hv_mem 57 (by decide +kernel) (by decide +kernel), hv_mem 319 (by decide +kernel) (by decide +kernel), (by decide +kernel), (by decide +kernel)⟩
theorem mi_N_findOrder : Cond.instanceMethod M_N_findOrder.1 ∈ hv_tbl := hv_mem 318 (by decide +kernel) (by decide +kernel)
theorem mv_N_findOrder : Cond.selects M_N_findOrder.1.cls M_N_findOrder.1 M_N_findOrder.1 ∈ hv_tbl := hv_mem 9 (by decide +kernel) (by decide +kernel)
abbrev M_N_takeLegs : hv_M := (⟨"NetworkOrders", "takeLegs", "(I)V"⟩, prog_1_method_24_code, 3, none)
theorem mB_N_takeLegs : hv_mB M_N_takeLegs 1 := ⟨hv_mem 57 (by decide +kernel) (by decide +kernel), hv_mem 323 (by decide +kernel) (by decide +kernel), (by decide +kernel), (by decide +kernel)⟩
theorem mi_N_takeLegs : Cond.instanceMethod M_N_takeLegs.1 ∈ hv_tbl := hv_mem 322 (by decide +kernel) (by decide +kernel)
theorem mv_N_takeLegs : Cond.selects M_N_takeLegs.1.cls M_N_takeLegs.1 M_N_takeLegs.1 ∈ hv_tbl := hv_mem 10 (by decide +kernel) (by decide +kernel)
abbrev M_G_joinAll : hv_M := (⟨"NetworkOrders$GreedyRun", "joinAll", "([II)V"⟩, prog_3_method_2_code, 6, none)
theorem mB_G_joinAll : hv_mB M_G_joinAll 2 := ⟨hv_mem 60 (by decide +kernel) (by decide +kernel), hv_mem 327 (by decide +kernel) (by decide +kernel), (by decide +kernel), (by decide +kernel)⟩
theorem mi_G_joinAll : Cond.instanceMethod M_G_joinAll.1 ∈ hv_tbl := hv_mem 326 (by decide +kernel) (by decide +kernel)
theorem mv_G_joinAll : Cond.selects M_G_joinAll.1.cls M_G_joinAll.1 M_G_joinAll.1 ∈ hv_tbl := hv_mem 11 (by decide +kernel) (by decide +kernel)
abbrev M_G_addThing : hv_M := (⟨"NetworkOrders$GreedyRun", "addThing", "(II)V"⟩, prog_3_method_3_code, 3, none)
theorem mB_G_addThing : hv_mB M_G_addThing 2 := ⟨hv_mem 60 (by decide +kernel) (by decide +kernel), hv_mem 331 (by decide +kernel) (by decide +kernel), (by decide +kernel), (by decide +kernel)⟩
theorem mi_G_addThing : Cond.instanceMethod M_G_addThing.1 ∈ hv_tbl := hv_mem 330 (by decide +kernel) (by decide +kernel)
theorem mv_G_addThing : Cond.selects M_G_addThing.1.cls M_G_addThing.1 M_G_addThing.1 ∈ hv_tbl := hv_mem 12 (by decide +kernel) (by decide +kernel)
abbrev M_JI_bitCount : hv_M := (⟨"java/lang/Integer", "bitCount", "(I)I"⟩, prog_10_method_49_code, 1, some .int)
theorem mB_JI_bitCount : hv_mB M_JI_bitCount 1 := ⟨hv_mem 68 (by decide +kernel) (by decide +kernel), hv_mem 334 (by decide +kernel) (by decide +kernel), (by decide +kernel), (by decide +kernel)⟩
theorem ms_JI_bitCount : Cond.static M_JI_bitCount.1 ∈ hv_tbl := hv_mem 333 (by decide +kernel) (by decide +kernel)
abbrev M_G_choose : hv_M := (⟨"NetworkOrders$GreedyRun", "choose", "(II)V"⟩, prog_3_method_4_code, 8, none)
theorem mB_G_choose : hv_mB M_G_choose 2 := ⟨hv_mem 60 (by decide +kernel) (by decide +kernel), hv_mem 341 (by decide +kernel) (by decide +kernel), (by decide +kernel), (by decide +kernel)⟩
theorem mi_G_choose : Cond.instanceMethod M_G_choose.1 ∈ hv_tbl := hv_mem 340 (by decide +kernel) (by decide +kernel)
theorem mv_G_choose : Cond.selects M_G_choose.1.cls M_G_choose.1 M_G_choose.1 ∈ hv_tbl := hv_mem 13 (by decide +kernel) (by decide +kernel)
abbrev M_N_isIn : hv_M := (⟨"NetworkOrders", "isIn", "(II)Z"⟩, prog_1_method_35_code, 2, some .boolean)
theorem mB_N_isIn : hv_mB M_N_isIn 2 := ⟨hv_mem 57 (by decide +kernel) (by decide +kernel), hv_mem 345 (by decide +kernel) (by decide +kernel), (by decide +kernel), (by decide +kernel)⟩
theorem ms_N_isIn : Cond.static M_N_isIn.1 ∈ hv_tbl := hv_mem 344 (by decide +kernel) (by decide +kernel)
abbrev M_O_find : hv_M := (⟨"NetworkOrders$Order", "find", "([III)V"⟩, prog_4_method_2_code, 7, none)
theorem mB_O_find : hv_mB M_O_find 3 := ⟨hv_mem 59 (by decide +kernel) (by decide +kernel), hv_mem 349 (by decide +kernel) (by decide +kernel), (by decide +kernel), (by decide +kernel)⟩
theorem mi_O_find : Cond.instanceMethod M_O_find.1 ∈ hv_tbl := hv_mem 348 (by decide +kernel) (by decide +kernel)
theorem mv_O_find : Cond.selects M_O_find.1.cls M_O_find.1 M_O_find.1 ∈ hv_tbl := hv_mem 14 (by decide +kernel) (by decide +kernel)
abbrev M_JI_numberOfTrailingZeros : hv_M := (⟨"java/lang/Integer", "numberOfTrailingZeros", "(I)I"⟩, prog_10_method_48_code, 2, some .int)
theorem mB_JI_numberOfTrailingZeros : hv_mB M_JI_numberOfTrailingZeros 1 := ⟨hv_mem 68 (by decide +kernel) (by decide +kernel), hv_mem 352 (by decide +kernel) (by decide +kernel), (by decide +kernel), (by decide +kernel)⟩
theorem ms_JI_numberOfTrailingZeros : Cond.static M_JI_numberOfTrailingZeros.1 ∈ hv_tbl := hv_mem 351 (by decide +kernel) (by decide +kernel)
abbrev M_O_isTooDear : hv_M := (⟨"NetworkOrders$Order", "isTooDear", "(II)Z"⟩, prog_4_method_3_code, 3, some .boolean)
theorem mB_O_isTooDear : hv_mB M_O_isTooDear 2 := ⟨hv_mem 59 (by decide +kernel) (by decide +kernel), hv_mem 357 (by decide +kernel) (by decide +kernel), (by decide +kernel), (by decide +kernel)⟩
theorem mi_O_isTooDear : Cond.instanceMethod M_O_isTooDear.1 ∈ hv_tbl := hv_mem 356 (by decide +kernel) (by decide +kernel)
theorem mv_O_isTooDear : Cond.selects M_O_isTooDear.1.cls M_O_isTooDear.1 M_O_isTooDear.1 ∈ hv_tbl := hv_mem 15 (by decide +kernel) (by decide +kernel)
abbrev M_O_partInTwo : hv_M := (⟨"NetworkOrders$Order", "partInTwo", "(III)V"⟩, prog_4_method_4_code, 11, none)
theorem mB_O_partInTwo : hv_mB M_O_partInTwo 3 := ⟨hv_mem 59 (by decide +kernel) (by decide +kernel), hv_mem 362 (by decide +kernel) (by decide +kernel), (by decide +kernel), (by decide +kernel)⟩
theorem mi_O_partInTwo : Cond.instanceMethod M_O_partInTwo.1 ∈ hv_tbl := hv_mem 361 (by decide +kernel) (by decide +kernel)
theorem mv_O_partInTwo : Cond.selects M_O_partInTwo.1.cls M_O_partInTwo.1 M_O_partInTwo.1 ∈ hv_tbl := hv_mem 16 (by decide +kernel) (by decide +kernel)
abbrev M_O_listSteps : hv_M := (⟨"NetworkOrders$Order", "listSteps", "(II)V"⟩, prog_4_method_5_code, 7, none)
theorem mB_O_listSteps : hv_mB M_O_listSteps 2 := ⟨hv_mem 59 (by decide +kernel) (by decide +kernel), hv_mem 366 (by decide +kernel) (by decide +kernel), (by decide +kernel), (by decide +kernel)⟩
theorem mi_O_listSteps : Cond.instanceMethod M_O_listSteps.1 ∈ hv_tbl := hv_mem 365 (by decide +kernel) (by decide +kernel)
theorem mv_O_listSteps : Cond.selects M_O_listSteps.1.cls M_O_listSteps.1 M_O_listSteps.1 ∈ hv_tbl := hv_mem 17 (by decide +kernel) (by decide +kernel)
abbrev M_O_findMostLegs : hv_M := (⟨"NetworkOrders$Order", "findMostLegs", "(I)V"⟩, prog_4_method_6_code, 3, none)
theorem mB_O_findMostLegs : hv_mB M_O_findMostLegs 1 := ⟨hv_mem 59 (by decide +kernel) (by decide +kernel), hv_mem 370 (by decide +kernel) (by decide +kernel), (by decide +kernel), (by decide +kernel)⟩
theorem mi_O_findMostLegs : Cond.instanceMethod M_O_findMostLegs.1 ∈ hv_tbl := hv_mem 369 (by decide +kernel) (by decide +kernel)
theorem mv_O_findMostLegs : Cond.selects M_O_findMostLegs.1.cls M_O_findMostLegs.1 M_O_findMostLegs.1 ∈ hv_tbl := hv_mem 18 (by decide +kernel) (by decide +kernel)
abbrev M_JM_max : hv_M := (⟨"java/lang/Math", "max", "(II)I"⟩, prog_11_method_65_code, 2, some .int)
theorem mB_JM_max : hv_mB M_JM_max 2 := ⟨hv_mem 69 (by decide +kernel) (by decide +kernel), hv_mem 373 (by decide +kernel) (by decide +kernel), (by decide +kernel), (by decide +kernel)⟩
theorem ms_JM_max : Cond.static M_JM_max.1 ∈ hv_tbl := hv_mem 372 (by decide +kernel) (by decide +kernel)
abbrev M_N_peak : hv_M := (⟨"NetworkOrders", "peak", "()I"⟩, prog_1_method_10_code, 1, some .int)
theorem mB_N_peak : hv_mB M_N_peak 0 := ⟨hv_mem 57 (by decide +kernel) (by decide +kernel), hv_mem 377 (by decide +kernel) (by decide +kernel), (by decide +kernel), (by decide +kernel)⟩
theorem mi_N_peak : Cond.instanceMethod M_N_peak.1 ∈ hv_tbl := hv_mem 375 (by decide +kernel) (by decide +kernel)
theorem mv_N_peak : Cond.selects M_N_peak.1.cls M_N_peak.1 M_N_peak.1 ∈ hv_tbl := hv_mem 376 (by decide +kernel) (by decide +kernel)
abbrev M_N_step : hv_M := (⟨"NetworkOrders", "step", "(II)I"⟩, prog_1_method_11_code, 6, some .int)
theorem mB_N_step : hv_mB M_N_step 2 := ⟨hv_mem 57 (by decide +kernel) (by decide +kernel), hv_mem 381 (by decide +kernel) (by decide +kernel), (by decide +kernel), (by decide +kernel)⟩
theorem mi_N_step : Cond.instanceMethod M_N_step.1 ∈ hv_tbl := hv_mem 379 (by decide +kernel) (by decide +kernel)
theorem mv_N_step : Cond.selects M_N_step.1.cls M_N_step.1 M_N_step.1 ∈ hv_tbl := hv_mem 380 (by decide +kernel) (by decide +kernel)
abbrev M_N_greedy : hv_M := (⟨"NetworkOrders", "greedy", "(I)I"⟩, prog_1_method_12_code, 3, some .int)
theorem mB_N_greedy : hv_mB M_N_greedy 1 := ⟨hv_mem 57 (by decide +kernel) (by decide +kernel), hv_mem 385 (by decide +kernel) (by decide +kernel), (by decide +kernel), (by decide +kernel)⟩
theorem mi_N_greedy : Cond.instanceMethod M_N_greedy.1 ∈ hv_tbl := hv_mem 383 (by decide +kernel) (by decide +kernel)
theorem mv_N_greedy : Cond.selects M_N_greedy.1.cls M_N_greedy.1 M_N_greedy.1 ∈ hv_tbl := hv_mem 384 (by decide +kernel) (by decide +kernel)
abbrev M_N_cut : hv_M := (⟨"NetworkOrders", "cut", "(I)I"⟩, prog_1_method_13_code, 4, some .int)
theorem mB_N_cut : hv_mB M_N_cut 1 := ⟨hv_mem 57 (by decide +kernel) (by decide +kernel), hv_mem 389 (by decide +kernel) (by decide +kernel), (by decide +kernel), (by decide +kernel)⟩
theorem mi_N_cut : Cond.instanceMethod M_N_cut.1 ∈ hv_tbl := hv_mem 387 (by decide +kernel) (by decide +kernel)
theorem mv_N_cut : Cond.selects M_N_cut.1.cls M_N_cut.1 M_N_cut.1 ∈ hv_tbl := hv_mem 388 (by decide +kernel) (by decide +kernel)
abbrev M_N_namesBetweenTensors : hv_M := (⟨"NetworkOrders", "namesBetweenTensors", "()I"⟩, prog_1_method_22_code, 3, some .int)
theorem mB_N_namesBetweenTensors : hv_mB M_N_namesBetweenTensors 0 := ⟨hv_mem 57 (by decide +kernel) (by decide +kernel), hv_mem 393 (by decide +kernel) (by decide +kernel), (by decide +kernel), (by decide +kernel)⟩
theorem mi_N_namesBetweenTensors : Cond.instanceMethod M_N_namesBetweenTensors.1 ∈ hv_tbl := hv_mem 392 (by decide +kernel) (by decide +kernel)
theorem mv_N_namesBetweenTensors : Cond.selects M_N_namesBetweenTensors.1.cls M_N_namesBetweenTensors.1 M_N_namesBetweenTensors.1 ∈ hv_tbl := hv_mem 19 (by decide +kernel) (by decide +kernel)
abbrev M_N_leastSingleCut : hv_M := (⟨"NetworkOrders", "leastSingleCut", "(II)I"⟩, prog_1_method_28_code, 4, some .int)
theorem mB_N_leastSingleCut : hv_mB M_N_leastSingleCut 2 := ⟨hv_mem 57 (by decide +kernel) (by decide +kernel), hv_mem 397 (by decide +kernel) (by decide +kernel), (by decide +kernel), (by decide +kernel)⟩
theorem mi_N_leastSingleCut : Cond.instanceMethod M_N_leastSingleCut.1 ∈ hv_tbl := hv_mem 396 (by decide +kernel) (by decide +kernel)
theorem mv_N_leastSingleCut : Cond.selects M_N_leastSingleCut.1.cls M_N_leastSingleCut.1 M_N_leastSingleCut.1 ∈ hv_tbl := hv_mem 20 (by decide +kernel) (by decide +kernel)
abbrev M_N_isLowWhenCut : hv_M := (⟨"NetworkOrders", "isLowWhenCut", "(III)Z"⟩, prog_1_method_30_code, 6, some .boolean)
theorem mB_N_isLowWhenCut : hv_mB M_N_isLowWhenCut 3 := ⟨hv_mem 57 (by decide +kernel) (by decide +kernel), hv_mem 402 (by decide +kernel) (by decide +kernel), (by decide +kernel), (by decide +kernel)⟩
theorem mi_N_isLowWhenCut : Cond.instanceMethod M_N_isLowWhenCut.1 ∈ hv_tbl := hv_mem 401 (by decide +kernel) (by decide +kernel)
theorem mv_N_isLowWhenCut : Cond.selects M_N_isLowWhenCut.1.cls M_N_isLowWhenCut.1 M_N_isLowWhenCut.1 ∈ hv_tbl := hv_mem 21 (by decide +kernel) (by decide +kernel)
abbrev M_N_areTensorsLow : hv_M := (⟨"NetworkOrders", "areTensorsLow", "(II)Z"⟩, prog_1_method_31_code, 4, some .boolean)
theorem mB_N_areTensorsLow : hv_mB M_N_areTensorsLow 2 := ⟨hv_mem 57 (by decide +kernel) (by decide +kernel), hv_mem 406 (by decide +kernel) (by decide +kernel), (by decide +kernel), (by decide +kernel)⟩
theorem mi_N_areTensorsLow : Cond.instanceMethod M_N_areTensorsLow.1 ∈ hv_tbl := hv_mem 405 (by decide +kernel) (by decide +kernel)
theorem mv_N_areTensorsLow : Cond.selects M_N_areTensorsLow.1.cls M_N_areTensorsLow.1 M_N_areTensorsLow.1 ∈ hv_tbl := hv_mem 22 (by decide +kernel) (by decide +kernel)
abbrev M_N_orderWhenCut : hv_M := (⟨"NetworkOrders", "orderWhenCut", "(I)LNetworkOrders$Order;"⟩, prog_1_method_27_code, 2, some (.object "NetworkOrders$Order"))
theorem mB_N_orderWhenCut : hv_mB M_N_orderWhenCut 1 := ⟨hv_mem 57 (by decide +kernel) (by decide +kernel), hv_mem 411 (by decide +kernel) (by decide +kernel), (by decide +kernel), (by decide +kernel)⟩
theorem mi_N_orderWhenCut : Cond.instanceMethod M_N_orderWhenCut.1 ∈ hv_tbl := hv_mem 410 (by decide +kernel) (by decide +kernel)
theorem mv_N_orderWhenCut : Cond.selects M_N_orderWhenCut.1.cls M_N_orderWhenCut.1 M_N_orderWhenCut.1 ∈ hv_tbl := hv_mem 23 (by decide +kernel) (by decide +kernel)
abbrev M_N_leastDoubleCut : hv_M := (⟨"NetworkOrders", "leastDoubleCut", "(II)I"⟩, prog_1_method_29_code, 5, some .int)
theorem mB_N_leastDoubleCut : hv_mB M_N_leastDoubleCut 2 := ⟨hv_mem 57 (by decide +kernel) (by decide +kernel), hv_mem 415 (by decide +kernel) (by decide +kernel), (by decide +kernel), (by decide +kernel)⟩
theorem mi_N_leastDoubleCut : Cond.instanceMethod M_N_leastDoubleCut.1 ∈ hv_tbl := hv_mem 414 (by decide +kernel) (by decide +kernel)
theorem mv_N_leastDoubleCut : Cond.selects M_N_leastDoubleCut.1.cls M_N_leastDoubleCut.1 M_N_leastDoubleCut.1 ∈ hv_tbl := hv_mem 24 (by decide +kernel) (by decide +kernel)
abbrev M_N_costOf : hv_M := (⟨"NetworkOrders", "costOf", "(I)I"⟩, prog_1_method_14_code, 3, some .int)
theorem mB_N_costOf : hv_mB M_N_costOf 1 := ⟨hv_mem 57 (by decide +kernel) (by decide +kernel), hv_mem 419 (by decide +kernel) (by decide +kernel), (by decide +kernel), (by decide +kernel)⟩
theorem mi_N_costOf : Cond.instanceMethod M_N_costOf.1 ∈ hv_tbl := hv_mem 417 (by decide +kernel) (by decide +kernel)
theorem mv_N_costOf : Cond.selects M_N_costOf.1.cls M_N_costOf.1 M_N_costOf.1 ∈ hv_tbl := hv_mem 418 (by decide +kernel) (by decide +kernel)
abbrev M_N_total : hv_M := (⟨"NetworkOrders", "total", "(I)I"⟩, prog_1_method_15_code, 2, some .int)
theorem mB_N_total : hv_mB M_N_total 1 := ⟨hv_mem 57 (by decide +kernel) (by decide +kernel), hv_mem 423 (by decide +kernel) (by decide +kernel), (by decide +kernel), (by decide +kernel)⟩
theorem mi_N_total : Cond.instanceMethod M_N_total.1 ∈ hv_tbl := hv_mem 421 (by decide +kernel) (by decide +kernel)
theorem mv_N_total : Cond.selects M_N_total.1.cls M_N_total.1 M_N_total.1 ∈ hv_tbl := hv_mem 422 (by decide +kernel) (by decide +kernel)
abbrev M_N_value : hv_M := (⟨"NetworkOrders", "value", "(II)J"⟩, prog_1_method_7_code, 3, some .long)
theorem mB_N_value : hv_mB M_N_value 2 := ⟨hv_mem 57 (by decide +kernel) (by decide +kernel), hv_mem 432 (by decide +kernel) (by decide +kernel), (by decide +kernel), (by decide +kernel)⟩
theorem mi_N_value : Cond.instanceMethod M_N_value.1 ∈ hv_tbl := hv_mem 430 (by decide +kernel) (by decide +kernel)
theorem mv_N_value : Cond.selects M_N_value.1.cls M_N_value.1 M_N_value.1 ∈ hv_tbl := hv_mem 431 (by decide +kernel) (by decide +kernel)
abbrev M_N_refuseUnknown : hv_M := (⟨"NetworkOrders", "refuseUnknown", "(II)V"⟩, prog_1_method_32_code, 3, none)
theorem mB_N_refuseUnknown : hv_mB M_N_refuseUnknown 2 := ⟨hv_mem 57 (by decide +kernel) (by decide +kernel), hv_mem 436 (by decide +kernel) (by decide +kernel), (by decide +kernel), (by decide +kernel)⟩
theorem mi_N_refuseUnknown : Cond.instanceMethod M_N_refuseUnknown.1 ∈ hv_tbl := hv_mem 435 (by decide +kernel) (by decide +kernel)
theorem mv_N_refuseUnknown : Cond.selects M_N_refuseUnknown.1.cls M_N_refuseUnknown.1 M_N_refuseUnknown.1 ∈ hv_tbl := hv_mem 25 (by decide +kernel) (by decide +kernel)
abbrev M_JT_init_V3 : hv_M := (⟨"java/lang/Throwable", "<init>", "()V"⟩, prog_14_method_1_code, 1, none)
theorem mB_JT_init_V3 : hv_mB M_JT_init_V3 0 := ⟨hv_mem 64 (by decide +kernel) (by decide +kernel), hv_mem 461 (by decide +kernel) (by decide +kernel), (by decide +kernel), (by decide +kernel)⟩
theorem mi_JT_init_V3 : Cond.instanceMethod M_JT_init_V3.1 ∈ hv_tbl := hv_mem 460 (by decide +kernel) (by decide +kernel)
abbrev M_JN_init : hv_M := (⟨"java/util/NoSuchElementException", "<init>", "(Ljava/lang/String;)V"⟩, prog_16_method_4_code, 2, none)
theorem mB_JN_init : hv_mB M_JN_init 1 := ⟨hv_mem 67 (by decide +kernel) (by decide +kernel), hv_mem 480 (by decide +kernel) (by decide +kernel), (by decide +kernel), (by decide +kernel)⟩
theorem mi_JN_init : Cond.instanceMethod M_JN_init.1 ∈ hv_tbl := hv_mem 479 (by decide +kernel) (by decide +kernel)
abbrev M_JR_init : hv_M := (⟨"java/lang/RuntimeException", "<init>", "(Ljava/lang/String;)V"⟩, prog_12_method_2_code, 2, none)
theorem mB_JR_init : hv_mB M_JR_init 1 := ⟨hv_mem 66 (by decide +kernel) (by decide +kernel), hv_mem 483 (by decide +kernel) (by decide +kernel), (by decide +kernel), (by decide +kernel)⟩
theorem mi_JR_init : Cond.instanceMethod M_JR_init.1 ∈ hv_tbl := hv_mem 482 (by decide +kernel) (by decide +kernel)
abbrev M_JE_init : hv_M := (⟨"java/lang/Exception", "<init>", "(Ljava/lang/String;)V"⟩, prog_9_method_2_code, 2, none)
theorem mB_JE_init : hv_mB M_JE_init 1 := ⟨hv_mem 65 (by decide +kernel) (by decide +kernel), hv_mem 486 (by decide +kernel) (by decide +kernel), (by decide +kernel), (by decide +kernel)⟩
theorem mi_JE_init : Cond.instanceMethod M_JE_init.1 ∈ hv_tbl := hv_mem 485 (by decide +kernel) (by decide +kernel)
abbrev M_JT_init_L21 : hv_M := (⟨"java/lang/Throwable", "<init>", "(Ljava/lang/String;)V"⟩, prog_14_method_2_code, 2, none)
theorem mB_JT_init_L21 : hv_mB M_JT_init_L21 1 := ⟨hv_mem 64 (by decide +kernel) (by decide +kernel), hv_mem 489 (by decide +kernel) (by decide +kernel), (by decide +kernel), (by decide +kernel)⟩
theorem mi_JT_init_L21 : Cond.instanceMethod M_JT_init_L21.1 ∈ hv_tbl := hv_mem 488 (by decide +kernel) (by decide +kernel)
abbrev M_N_refuseHighPeak : hv_M := (⟨"NetworkOrders", "refuseHighPeak", "()V"⟩, prog_1_method_33_code, 1, none)
theorem mB_N_refuseHighPeak : hv_mB M_N_refuseHighPeak 0 := ⟨hv_mem 57 (by decide +kernel) (by decide +kernel), hv_mem 509 (by decide +kernel) (by decide +kernel), (by decide +kernel), (by decide +kernel)⟩
theorem mi_N_refuseHighPeak : Cond.instanceMethod M_N_refuseHighPeak.1 ∈ hv_tbl := hv_mem 508 (by decide +kernel) (by decide +kernel)
theorem mv_N_refuseHighPeak : Cond.selects M_N_refuseHighPeak.1.cls M_N_refuseHighPeak.1 M_N_refuseHighPeak.1 ∈ hv_tbl := hv_mem 27 (by decide +kernel) (by decide +kernel)
abbrev M_JX_init : hv_M := (⟨"java/lang/ArithmeticException", "<init>", "(Ljava/lang/String;)V"⟩, prog_8_method_2_code, 2, none)
theorem mB_JX_init : hv_mB M_JX_init 1 := ⟨hv_mem 70 (by decide +kernel) (by decide +kernel), hv_mem 522 (by decide +kernel) (by decide +kernel), (by decide +kernel), (by decide +kernel)⟩
theorem mi_JX_init : Cond.instanceMethod M_JX_init.1 ∈ hv_tbl := hv_mem 521 (by decide +kernel) (by decide +kernel)
abbrev M_N_contracted : hv_M := (⟨"NetworkOrders", "contracted", "(IIII)J"⟩, prog_1_method_34_code, 9, some .long)
theorem mB_N_contracted : hv_mB M_N_contracted 4 := ⟨hv_mem 57 (by decide +kernel) (by decide +kernel), hv_mem 529 (by decide +kernel) (by decide +kernel), (by decide +kernel), (by decide +kernel)⟩
theorem mi_N_contracted : Cond.instanceMethod M_N_contracted.1 ∈ hv_tbl := hv_mem 528 (by decide +kernel) (by decide +kernel)
theorem mv_N_contracted : Cond.selects M_N_contracted.1.cls M_N_contracted.1 M_N_contracted.1 ∈ hv_tbl := hv_mem 28 (by decide +kernel) (by decide +kernel)
abbrev M_N_spread : hv_M := (⟨"NetworkOrders", "spread", "(II)I"⟩, prog_1_method_36_code, 5, some .int)
theorem mB_N_spread : hv_mB M_N_spread 2 := ⟨hv_mem 57 (by decide +kernel) (by decide +kernel), hv_mem 532 (by decide +kernel) (by decide +kernel), (by decide +kernel), (by decide +kernel)⟩
theorem ms_N_spread : Cond.static M_N_spread.1 ∈ hv_tbl := hv_mem 531 (by decide +kernel) (by decide +kernel)
abbrev M_C_begin : hv_M := (⟨"NetworkOrders$Contraction", "begin", "(LNetworkOrders$Order;II)V"⟩, prog_2_method_2_code, 6, none)
theorem mB_C_begin : hv_mB M_C_begin 3 := ⟨hv_mem 61 (by decide +kernel) (by decide +kernel), hv_mem 536 (by decide +kernel) (by decide +kernel), (by decide +kernel), (by decide +kernel)⟩
theorem mi_C_begin : Cond.instanceMethod M_C_begin.1 ∈ hv_tbl := hv_mem 535 (by decide +kernel) (by decide +kernel)
theorem mv_C_begin : Cond.selects M_C_begin.1.cls M_C_begin.1 M_C_begin.1 ∈ hv_tbl := hv_mem 29 (by decide +kernel) (by decide +kernel)
abbrev M_C_makeRoom : hv_M := (⟨"NetworkOrders$Contraction", "makeRoom", "(I)V"⟩, prog_2_method_3_code, 3, none)
theorem mB_C_makeRoom : hv_mB M_C_makeRoom 1 := ⟨hv_mem 61 (by decide +kernel) (by decide +kernel), hv_mem 541 (by decide +kernel) (by decide +kernel), (by decide +kernel), (by decide +kernel)⟩
theorem mi_C_makeRoom : Cond.instanceMethod M_C_makeRoom.1 ∈ hv_tbl := hv_mem 540 (by decide +kernel) (by decide +kernel)
theorem mv_C_makeRoom : Cond.selects M_C_makeRoom.1.cls M_C_makeRoom.1 M_C_makeRoom.1 ∈ hv_tbl := hv_mem 30 (by decide +kernel) (by decide +kernel)
abbrev M_C_load : hv_M := (⟨"NetworkOrders$Contraction", "load", "(ILNetworkOrders$Tensor;II)V"⟩, prog_2_method_5_code, 6, none)
theorem mB_C_load : hv_mB M_C_load 4 := ⟨hv_mem 61 (by decide +kernel) (by decide +kernel), hv_mem 546 (by decide +kernel) (by decide +kernel), (by decide +kernel), (by decide +kernel)⟩
theorem mi_C_load : Cond.instanceMethod M_C_load.1 ∈ hv_tbl := hv_mem 545 (by decide +kernel) (by decide +kernel)
theorem mv_C_load : Cond.selects M_C_load.1.cls M_C_load.1 M_C_load.1 ∈ hv_tbl := hv_mem 31 (by decide +kernel) (by decide +kernel)
abbrev M_C_take : hv_M := (⟨"NetworkOrders$Contraction", "take", "(I)I"⟩, prog_2_method_4_code, 3, some .int)
theorem mB_C_take : hv_mB M_C_take 1 := ⟨hv_mem 61 (by decide +kernel) (by decide +kernel), hv_mem 550 (by decide +kernel) (by decide +kernel), (by decide +kernel), (by decide +kernel)⟩
theorem mi_C_take : Cond.instanceMethod M_C_take.1 ∈ hv_tbl := hv_mem 549 (by decide +kernel) (by decide +kernel)
theorem mv_C_take : Cond.selects M_C_take.1.cls M_C_take.1 M_C_take.1 ∈ hv_tbl := hv_mem 32 (by decide +kernel) (by decide +kernel)
abbrev M_C_add : hv_M := (⟨"NetworkOrders$Contraction", "add", "(ILNetworkOrders$Tensor;IIII)V"⟩, prog_2_method_6_code, 10, none)
theorem mB_C_add : hv_mB M_C_add 6 := ⟨hv_mem 61 (by decide +kernel) (by decide +kernel), hv_mem 554 (by decide +kernel) (by decide +kernel), (by decide +kernel), (by decide +kernel)⟩
theorem mi_C_add : Cond.instanceMethod M_C_add.1 ∈ hv_tbl := hv_mem 553 (by decide +kernel) (by decide +kernel)
theorem mv_C_add : Cond.selects M_C_add.1.cls M_C_add.1 M_C_add.1 ∈ hv_tbl := hv_mem 33 (by decide +kernel) (by decide +kernel)
abbrev M_T_namesWithBit : hv_M := (⟨"NetworkOrders$Tensor", "namesWithBit", "(II)I"⟩, prog_5_method_4_code, 5, some .int)
theorem mB_T_namesWithBit : hv_mB M_T_namesWithBit 2 := ⟨hv_mem 58 (by decide +kernel) (by decide +kernel), hv_mem 558 (by decide +kernel) (by decide +kernel), (by decide +kernel), (by decide +kernel)⟩
theorem mi_T_namesWithBit : Cond.instanceMethod M_T_namesWithBit.1 ∈ hv_tbl := hv_mem 557 (by decide +kernel) (by decide +kernel)
theorem mv_T_namesWithBit : Cond.selects M_T_namesWithBit.1.cls M_T_namesWithBit.1 M_T_namesWithBit.1 ∈ hv_tbl := hv_mem 34 (by decide +kernel) (by decide +kernel)
abbrev M_N_gather : hv_M := (⟨"NetworkOrders", "gather", "(II)I"⟩, prog_1_method_37_code, 5, some .int)
theorem mB_N_gather : hv_mB M_N_gather 2 := ⟨hv_mem 57 (by decide +kernel) (by decide +kernel), hv_mem 561 (by decide +kernel) (by decide +kernel), (by decide +kernel), (by decide +kernel)⟩
theorem ms_N_gather : Cond.static M_N_gather.1 ∈ hv_tbl := hv_mem 560 (by decide +kernel) (by decide +kernel)
abbrev M_C_joinAll : hv_M := (⟨"NetworkOrders$Contraction", "joinAll", "(LNetworkOrders$Order;I)V"⟩, prog_2_method_7_code, 6, none)
theorem mB_C_joinAll : hv_mB M_C_joinAll 2 := ⟨hv_mem 61 (by decide +kernel) (by decide +kernel), hv_mem 565 (by decide +kernel) (by decide +kernel), (by decide +kernel), (by decide +kernel)⟩
theorem mi_C_joinAll : Cond.instanceMethod M_C_joinAll.1 ∈ hv_tbl := hv_mem 564 (by decide +kernel) (by decide +kernel)
theorem mv_C_joinAll : Cond.selects M_C_joinAll.1.cls M_C_joinAll.1 M_C_joinAll.1 ∈ hv_tbl := hv_mem 35 (by decide +kernel) (by decide +kernel)
abbrev M_C_joinTwo : hv_M := (⟨"NetworkOrders$Contraction", "joinTwo", "(II)V"⟩, prog_2_method_8_code, 12, none)
theorem mB_C_joinTwo : hv_mB M_C_joinTwo 2 := ⟨hv_mem 61 (by decide +kernel) (by decide +kernel), hv_mem 570 (by decide +kernel) (by decide +kernel), (by decide +kernel), (by decide +kernel)⟩
theorem mi_C_joinTwo : Cond.instanceMethod M_C_joinTwo.1 ∈ hv_tbl := hv_mem 569 (by decide +kernel) (by decide +kernel)
theorem mv_C_joinTwo : Cond.selects M_C_joinTwo.1.cls M_C_joinTwo.1 M_C_joinTwo.1 ∈ hv_tbl := hv_mem 36 (by decide +kernel) (by decide +kernel)
abbrev M_C_findMoves : hv_M := (⟨"NetworkOrders$Contraction", "findMoves", "([III)V"⟩, prog_2_method_9_code, 8, none)
theorem mB_C_findMoves : hv_mB M_C_findMoves 3 := ⟨hv_mem 61 (by decide +kernel) (by decide +kernel), hv_mem 573 (by decide +kernel) (by decide +kernel), (by decide +kernel), (by decide +kernel)⟩
theorem ms_C_findMoves : Cond.static M_C_findMoves.1 ∈ hv_tbl := hv_mem 572 (by decide +kernel) (by decide +kernel)
abbrev M_C_resultReal : hv_M := (⟨"NetworkOrders$Contraction", "resultReal", "()J"⟩, prog_2_method_10_code, 1, some .long)
theorem mB_C_resultReal : hv_mB M_C_resultReal 0 := ⟨hv_mem 61 (by decide +kernel) (by decide +kernel), hv_mem 578 (by decide +kernel) (by decide +kernel), (by decide +kernel), (by decide +kernel)⟩
theorem mi_C_resultReal : Cond.instanceMethod M_C_resultReal.1 ∈ hv_tbl := hv_mem 577 (by decide +kernel) (by decide +kernel)
theorem mv_C_resultReal : Cond.selects M_C_resultReal.1.cls M_C_resultReal.1 M_C_resultReal.1 ∈ hv_tbl := hv_mem 37 (by decide +kernel) (by decide +kernel)
abbrev M_C_resultImaginary : hv_M := (⟨"NetworkOrders$Contraction", "resultImaginary", "()J"⟩, prog_2_method_11_code, 1, some .long)
theorem mB_C_resultImaginary : hv_mB M_C_resultImaginary 0 := ⟨hv_mem 61 (by decide +kernel) (by decide +kernel), hv_mem 582 (by decide +kernel) (by decide +kernel), (by decide +kernel), (by decide +kernel)⟩
theorem mi_C_resultImaginary : Cond.instanceMethod M_C_resultImaginary.1 ∈ hv_tbl := hv_mem 581 (by decide +kernel) (by decide +kernel)
theorem mv_C_resultImaginary : Cond.selects M_C_resultImaginary.1.cls M_C_resultImaginary.1 M_C_resultImaginary.1 ∈ hv_tbl := hv_mem 38 (by decide +kernel) (by decide +kernel)
abbrev M_N_slope : hv_M := (⟨"NetworkOrders", "slope", "(IIII)J"⟩, prog_1_method_8_code, 5, some .long)
theorem mB_N_slope : hv_mB M_N_slope 4 := ⟨hv_mem 57 (by decide +kernel) (by decide +kernel), hv_mem 589 (by decide +kernel) (by decide +kernel), (by decide +kernel), (by decide +kernel)⟩
theorem mi_N_slope : Cond.instanceMethod M_N_slope.1 ∈ hv_tbl := hv_mem 587 (by decide +kernel) (by decide +kernel)
theorem mv_N_slope : Cond.selects M_N_slope.1.cls M_N_slope.1 M_N_slope.1 ∈ hv_tbl := hv_mem 588 (by decide +kernel) (by decide +kernel)
abbrev M_K_init : hv_M := (⟨"NetworkOrdersModel", "<init>", "()V"⟩, prog_7_method_1_code, 1, none)
theorem mB_K_init : hv_mB M_K_init 0 := ⟨hv_mem 63 (by decide +kernel) (by decide +kernel), hv_mem 595 (by decide +kernel) (by decide +kernel), (by decide +kernel), (by decide +kernel)⟩
theorem mi_K_init : Cond.instanceMethod M_K_init.1 ∈ hv_tbl := hv_mem 594 (by decide +kernel) (by decide +kernel)
abbrev M_K_thrown : hv_M := (⟨"NetworkOrdersModel", "thrown", "()I"⟩, prog_7_method_2_code, 1, some .int)
theorem mB_K_thrown : hv_mB M_K_thrown 0 := ⟨hv_mem 63 (by decide +kernel) (by decide +kernel), hv_mem 695 (by decide +kernel) (by decide +kernel), (by decide +kernel), (by decide +kernel)⟩
theorem mi_K_thrown : Cond.instanceMethod M_K_thrown.1 ∈ hv_tbl := hv_mem 693 (by decide +kernel) (by decide +kernel)
theorem mv_K_thrown : Cond.selects M_K_thrown.1.cls M_K_thrown.1 M_K_thrown.1 ∈ hv_tbl := hv_mem 694 (by decide +kernel) (by decide +kernel)
abbrev M_K_tensor : hv_M := (⟨"NetworkOrdersModel", "tensor", "(I)I"⟩, prog_7_method_6_code, 3, some .int)
theorem mB_K_tensor : hv_mB M_K_tensor 1 := ⟨hv_mem 63 (by decide +kernel) (by decide +kernel), hv_mem 699 (by decide +kernel) (by decide +kernel), (by decide +kernel), (by decide +kernel)⟩
theorem mi_K_tensor : Cond.instanceMethod M_K_tensor.1 ∈ hv_tbl := hv_mem 697 (by decide +kernel) (by decide +kernel)
theorem mv_K_tensor : Cond.selects M_K_tensor.1.cls M_K_tensor.1 M_K_tensor.1 ∈ hv_tbl := hv_mem 698 (by decide +kernel) (by decide +kernel)
abbrev M_K_leg : hv_M := (⟨"NetworkOrdersModel", "leg", "(III)Z"⟩, prog_7_method_7_code, 6, some .boolean)
theorem mB_K_leg : hv_mB M_K_leg 3 := ⟨hv_mem 63 (by decide +kernel) (by decide +kernel), hv_mem 703 (by decide +kernel) (by decide +kernel), (by decide +kernel), (by decide +kernel)⟩
theorem mi_K_leg : Cond.instanceMethod M_K_leg.1 ∈ hv_tbl := hv_mem 701 (by decide +kernel) (by decide +kernel)
theorem mv_K_leg : Cond.selects M_K_leg.1.cls M_K_leg.1 M_K_leg.1 ∈ hv_tbl := hv_mem 702 (by decide +kernel) (by decide +kernel)
abbrev M_K_isTensor : hv_M := (⟨"NetworkOrdersModel", "isTensor", "(I)Z"⟩, prog_7_method_4_code, 2, some .boolean)
theorem mB_K_isTensor : hv_mB M_K_isTensor 1 := ⟨hv_mem 63 (by decide +kernel) (by decide +kernel), hv_mem 707 (by decide +kernel) (by decide +kernel), (by decide +kernel), (by decide +kernel)⟩
theorem mi_K_isTensor : Cond.instanceMethod M_K_isTensor.1 ∈ hv_tbl := hv_mem 706 (by decide +kernel) (by decide +kernel)
theorem mv_K_isTensor : Cond.selects M_K_isTensor.1.cls M_K_isTensor.1 M_K_isTensor.1 ∈ hv_tbl := hv_mem 39 (by decide +kernel) (by decide +kernel)
abbrev M_K_put : hv_M := (⟨"NetworkOrdersModel", "put", "(IIII)Z"⟩, prog_7_method_9_code, 5, some .boolean)
theorem mB_K_put : hv_mB M_K_put 4 := ⟨hv_mem 63 (by decide +kernel) (by decide +kernel), hv_mem 711 (by decide +kernel) (by decide +kernel), (by decide +kernel), (by decide +kernel)⟩
theorem mi_K_put : Cond.instanceMethod M_K_put.1 ∈ hv_tbl := hv_mem 709 (by decide +kernel) (by decide +kernel)
theorem mv_K_put : Cond.selects M_K_put.1.cls M_K_put.1 M_K_put.1 ∈ hv_tbl := hv_mem 710 (by decide +kernel) (by decide +kernel)
abbrev M_K_isIndex : hv_M := (⟨"NetworkOrdersModel", "isIndex", "(II)Z"⟩, prog_7_method_8_code, 3, some .boolean)
theorem mB_K_isIndex : hv_mB M_K_isIndex 2 := ⟨hv_mem 63 (by decide +kernel) (by decide +kernel), hv_mem 715 (by decide +kernel) (by decide +kernel), (by decide +kernel), (by decide +kernel)⟩
theorem mi_K_isIndex : Cond.instanceMethod M_K_isIndex.1 ∈ hv_tbl := hv_mem 714 (by decide +kernel) (by decide +kernel)
theorem mv_K_isIndex : Cond.selects M_K_isIndex.1.cls M_K_isIndex.1 M_K_isIndex.1 ∈ hv_tbl := hv_mem 40 (by decide +kernel) (by decide +kernel)
abbrev M_K_clear : hv_M := (⟨"NetworkOrdersModel", "clear", "()V"⟩, prog_7_method_10_code, 1, none)
theorem mB_K_clear : hv_mB M_K_clear 0 := ⟨hv_mem 63 (by decide +kernel) (by decide +kernel), hv_mem 719 (by decide +kernel) (by decide +kernel), (by decide +kernel), (by decide +kernel)⟩
theorem mi_K_clear : Cond.instanceMethod M_K_clear.1 ∈ hv_tbl := hv_mem 717 (by decide +kernel) (by decide +kernel)
theorem mv_K_clear : Cond.selects M_K_clear.1.cls M_K_clear.1 M_K_clear.1 ∈ hv_tbl := hv_mem 718 (by decide +kernel) (by decide +kernel)
abbrev M_K_open : hv_M := (⟨"NetworkOrdersModel", "open", "()I"⟩, prog_7_method_12_code, 1, some .int)
theorem mB_K_open : hv_mB M_K_open 0 := ⟨hv_mem 63 (by decide +kernel) (by decide +kernel), hv_mem 723 (by decide +kernel) (by decide +kernel), (by decide +kernel), (by decide +kernel)⟩
theorem mi_K_open : Cond.instanceMethod M_K_open.1 ∈ hv_tbl := hv_mem 721 (by decide +kernel) (by decide +kernel)
theorem mv_K_open : Cond.selects M_K_open.1.cls M_K_open.1 M_K_open.1 ∈ hv_tbl := hv_mem 722 (by decide +kernel) (by decide +kernel)
abbrev M_K_isReady : hv_M := (⟨"NetworkOrdersModel", "isReady", "()Z"⟩, prog_7_method_11_code, 7, some .boolean)
theorem mB_K_isReady : hv_mB M_K_isReady 0 := ⟨hv_mem 63 (by decide +kernel) (by decide +kernel), hv_mem 727 (by decide +kernel) (by decide +kernel), (by decide +kernel), (by decide +kernel)⟩
theorem mi_K_isReady : Cond.instanceMethod M_K_isReady.1 ∈ hv_tbl := hv_mem 726 (by decide +kernel) (by decide +kernel)
theorem mv_K_isReady : Cond.selects M_K_isReady.1.cls M_K_isReady.1 M_K_isReady.1 ∈ hv_tbl := hv_mem 41 (by decide +kernel) (by decide +kernel)
abbrev M_K_cost : hv_M := (⟨"NetworkOrdersModel", "cost", "()I"⟩, prog_7_method_18_code, 1, some .int)
theorem mB_K_cost : hv_mB M_K_cost 0 := ⟨hv_mem 63 (by decide +kernel) (by decide +kernel), hv_mem 731 (by decide +kernel) (by decide +kernel), (by decide +kernel), (by decide +kernel)⟩
theorem mi_K_cost : Cond.instanceMethod M_K_cost.1 ∈ hv_tbl := hv_mem 729 (by decide +kernel) (by decide +kernel)
theorem mv_K_cost : Cond.selects M_K_cost.1.cls M_K_cost.1 M_K_cost.1 ∈ hv_tbl := hv_mem 730 (by decide +kernel) (by decide +kernel)
abbrev M_K_findOrder : hv_M := (⟨"NetworkOrdersModel", "findOrder", "(I)V"⟩, prog_7_method_15_code, 3, none)
theorem mB_K_findOrder : hv_mB M_K_findOrder 1 := ⟨hv_mem 63 (by decide +kernel) (by decide +kernel), hv_mem 735 (by decide +kernel) (by decide +kernel), (by decide +kernel), (by decide +kernel)⟩
theorem mi_K_findOrder : Cond.instanceMethod M_K_findOrder.1 ∈ hv_tbl := hv_mem 734 (by decide +kernel) (by decide +kernel)
theorem mv_K_findOrder : Cond.selects M_K_findOrder.1.cls M_K_findOrder.1 M_K_findOrder.1 ∈ hv_tbl := hv_mem 42 (by decide +kernel) (by decide +kernel)
abbrev M_K_all : hv_M := (⟨"NetworkOrdersModel", "all", "()I"⟩, prog_7_method_14_code, 1, some .int)
theorem mB_K_all : hv_mB M_K_all 0 := ⟨hv_mem 63 (by decide +kernel) (by decide +kernel), hv_mem 739 (by decide +kernel) (by decide +kernel), (by decide +kernel), (by decide +kernel)⟩
theorem mi_K_all : Cond.instanceMethod M_K_all.1 ∈ hv_tbl := hv_mem 738 (by decide +kernel) (by decide +kernel)
theorem mv_K_all : Cond.selects M_K_all.1.cls M_K_all.1 M_K_all.1 ∈ hv_tbl := hv_mem 43 (by decide +kernel) (by decide +kernel)
abbrev M_K_findSet : hv_M := (⟨"NetworkOrdersModel", "findSet", "(II)V"⟩, prog_7_method_13_code, 7, none)
theorem mB_K_findSet : hv_mB M_K_findSet 2 := ⟨hv_mem 63 (by decide +kernel) (by decide +kernel), hv_mem 743 (by decide +kernel) (by decide +kernel), (by decide +kernel), (by decide +kernel)⟩
theorem mi_K_findSet : Cond.instanceMethod M_K_findSet.1 ∈ hv_tbl := hv_mem 742 (by decide +kernel) (by decide +kernel)
theorem mv_K_findSet : Cond.selects M_K_findSet.1.cls M_K_findSet.1 M_K_findSet.1 ∈ hv_tbl := hv_mem 44 (by decide +kernel) (by decide +kernel)
abbrev M_K_count : hv_M := (⟨"NetworkOrdersModel", "count", "(I)I"⟩, prog_7_method_5_code, 3, some .int)
theorem mB_K_count : hv_mB M_K_count 1 := ⟨hv_mem 63 (by decide +kernel) (by decide +kernel), hv_mem 746 (by decide +kernel) (by decide +kernel), (by decide +kernel), (by decide +kernel)⟩
theorem ms_K_count : Cond.static M_K_count.1 ∈ hv_tbl := hv_mem 745 (by decide +kernel) (by decide +kernel)
abbrev M_K_peak : hv_M := (⟨"NetworkOrdersModel", "peak", "()I"⟩, prog_7_method_19_code, 1, some .int)
theorem mB_K_peak : hv_mB M_K_peak 0 := ⟨hv_mem 63 (by decide +kernel) (by decide +kernel), hv_mem 750 (by decide +kernel) (by decide +kernel), (by decide +kernel), (by decide +kernel)⟩
theorem mi_K_peak : Cond.instanceMethod M_K_peak.1 ∈ hv_tbl := hv_mem 748 (by decide +kernel) (by decide +kernel)
theorem mv_K_peak : Cond.selects M_K_peak.1.cls M_K_peak.1 M_K_peak.1 ∈ hv_tbl := hv_mem 749 (by decide +kernel) (by decide +kernel)
abbrev M_K_peakNow : hv_M := (⟨"NetworkOrdersModel", "peakNow", "()I"⟩, prog_7_method_17_code, 3, some .int)
theorem mB_K_peakNow : hv_mB M_K_peakNow 0 := ⟨hv_mem 63 (by decide +kernel) (by decide +kernel), hv_mem 754 (by decide +kernel) (by decide +kernel), (by decide +kernel), (by decide +kernel)⟩
theorem mi_K_peakNow : Cond.instanceMethod M_K_peakNow.1 ∈ hv_tbl := hv_mem 753 (by decide +kernel) (by decide +kernel)
theorem mv_K_peakNow : Cond.selects M_K_peakNow.1.cls M_K_peakNow.1 M_K_peakNow.1 ∈ hv_tbl := hv_mem 45 (by decide +kernel) (by decide +kernel)
abbrev M_K_findSteps : hv_M := (⟨"NetworkOrdersModel", "findSteps", "()V"⟩, prog_7_method_16_code, 3, none)
theorem mB_K_findSteps : hv_mB M_K_findSteps 0 := ⟨hv_mem 63 (by decide +kernel) (by decide +kernel), hv_mem 758 (by decide +kernel) (by decide +kernel), (by decide +kernel), (by decide +kernel)⟩
theorem mi_K_findSteps : Cond.instanceMethod M_K_findSteps.1 ∈ hv_tbl := hv_mem 757 (by decide +kernel) (by decide +kernel)
theorem mv_K_findSteps : Cond.selects M_K_findSteps.1.cls M_K_findSteps.1 M_K_findSteps.1 ∈ hv_tbl := hv_mem 46 (by decide +kernel) (by decide +kernel)
abbrev M_K_step : hv_M := (⟨"NetworkOrdersModel", "step", "(II)I"⟩, prog_7_method_20_code, 4, some .int)
theorem mB_K_step : hv_mB M_K_step 2 := ⟨hv_mem 63 (by decide +kernel) (by decide +kernel), hv_mem 762 (by decide +kernel) (by decide +kernel), (by decide +kernel), (by decide +kernel)⟩
theorem mi_K_step : Cond.instanceMethod M_K_step.1 ∈ hv_tbl := hv_mem 760 (by decide +kernel) (by decide +kernel)
theorem mv_K_step : Cond.selects M_K_step.1.cls M_K_step.1 M_K_step.1 ∈ hv_tbl := hv_mem 761 (by decide +kernel) (by decide +kernel)
abbrev M_K_cut : hv_M := (⟨"NetworkOrdersModel", "cut", "(I)I"⟩, prog_7_method_21_code, 5, some .int)
theorem mB_K_cut : hv_mB M_K_cut 1 := ⟨hv_mem 63 (by decide +kernel) (by decide +kernel), hv_mem 766 (by decide +kernel) (by decide +kernel), (by decide +kernel), (by decide +kernel)⟩
theorem mi_K_cut : Cond.instanceMethod M_K_cut.1 ∈ hv_tbl := hv_mem 764 (by decide +kernel) (by decide +kernel)
theorem mv_K_cut : Cond.selects M_K_cut.1.cls M_K_cut.1 M_K_cut.1 ∈ hv_tbl := hv_mem 765 (by decide +kernel) (by decide +kernel)
abbrev M_K_isEnough : hv_M := (⟨"NetworkOrdersModel", "isEnough", "(II)Z"⟩, prog_7_method_22_code, 3, some .boolean)
theorem mB_K_isEnough : hv_mB M_K_isEnough 2 := ⟨hv_mem 63 (by decide +kernel) (by decide +kernel), hv_mem 770 (by decide +kernel) (by decide +kernel), (by decide +kernel), (by decide +kernel)⟩
theorem mi_K_isEnough : Cond.instanceMethod M_K_isEnough.1 ∈ hv_tbl := hv_mem 769 (by decide +kernel) (by decide +kernel)
theorem mv_K_isEnough : Cond.selects M_K_isEnough.1.cls M_K_isEnough.1 M_K_isEnough.1 ∈ hv_tbl := hv_mem 47 (by decide +kernel) (by decide +kernel)
abbrev M_K_costOf : hv_M := (⟨"NetworkOrdersModel", "costOf", "(I)I"⟩, prog_7_method_23_code, 2, some .int)
theorem mB_K_costOf : hv_mB M_K_costOf 1 := ⟨hv_mem 63 (by decide +kernel) (by decide +kernel), hv_mem 774 (by decide +kernel) (by decide +kernel), (by decide +kernel), (by decide +kernel)⟩
theorem mi_K_costOf : Cond.instanceMethod M_K_costOf.1 ∈ hv_tbl := hv_mem 772 (by decide +kernel) (by decide +kernel)
theorem mv_K_costOf : Cond.selects M_K_costOf.1.cls M_K_costOf.1 M_K_costOf.1 ∈ hv_tbl := hv_mem 773 (by decide +kernel) (by decide +kernel)
abbrev M_K_greedy : hv_M := (⟨"NetworkOrdersModel", "greedy", "(I)I"⟩, prog_7_method_26_code, 3, some .int)
theorem mB_K_greedy : hv_mB M_K_greedy 1 := ⟨hv_mem 63 (by decide +kernel) (by decide +kernel), hv_mem 778 (by decide +kernel) (by decide +kernel), (by decide +kernel), (by decide +kernel)⟩
theorem mi_K_greedy : Cond.instanceMethod M_K_greedy.1 ∈ hv_tbl := hv_mem 776 (by decide +kernel) (by decide +kernel)
theorem mv_K_greedy : Cond.selects M_K_greedy.1.cls M_K_greedy.1 M_K_greedy.1 ∈ hv_tbl := hv_mem 777 (by decide +kernel) (by decide +kernel)
abbrev M_K_join : hv_M := (⟨"NetworkOrdersModel", "join", "(I)V"⟩, prog_7_method_25_code, 6, none)
theorem mB_K_join : hv_mB M_K_join 1 := ⟨hv_mem 63 (by decide +kernel) (by decide +kernel), hv_mem 782 (by decide +kernel) (by decide +kernel), (by decide +kernel), (by decide +kernel)⟩
theorem mi_K_join : Cond.instanceMethod M_K_join.1 ∈ hv_tbl := hv_mem 781 (by decide +kernel) (by decide +kernel)
theorem mv_K_join : Cond.selects M_K_join.1.cls M_K_join.1 M_K_join.1 ∈ hv_tbl := hv_mem 48 (by decide +kernel) (by decide +kernel)
abbrev M_K_gain : hv_M := (⟨"NetworkOrdersModel", "gain", "(II)I"⟩, prog_7_method_24_code, 3, some .int)
theorem mB_K_gain : hv_mB M_K_gain 2 := ⟨hv_mem 63 (by decide +kernel) (by decide +kernel), hv_mem 786 (by decide +kernel) (by decide +kernel), (by decide +kernel), (by decide +kernel)⟩
theorem mi_K_gain : Cond.instanceMethod M_K_gain.1 ∈ hv_tbl := hv_mem 785 (by decide +kernel) (by decide +kernel)
theorem mv_K_gain : Cond.selects M_K_gain.1.cls M_K_gain.1 M_K_gain.1 ∈ hv_tbl := hv_mem 49 (by decide +kernel) (by decide +kernel)
abbrev M_K_value : hv_M := (⟨"NetworkOrdersModel", "value", "(II)J"⟩, prog_7_method_32_code, 3, some .long)
theorem mB_K_value : hv_mB M_K_value 2 := ⟨hv_mem 63 (by decide +kernel) (by decide +kernel), hv_mem 790 (by decide +kernel) (by decide +kernel), (by decide +kernel), (by decide +kernel)⟩
theorem mi_K_value : Cond.instanceMethod M_K_value.1 ∈ hv_tbl := hv_mem 788 (by decide +kernel) (by decide +kernel)
theorem mv_K_value : Cond.selects M_K_value.1.cls M_K_value.1 M_K_value.1 ∈ hv_tbl := hv_mem 789 (by decide +kernel) (by decide +kernel)
abbrev M_K_tell : hv_M := (⟨"NetworkOrdersModel", "tell", "(ZII)J"⟩, prog_7_method_31_code, 4, some .long)
theorem mB_K_tell : hv_mB M_K_tell 3 := ⟨hv_mem 63 (by decide +kernel) (by decide +kernel), hv_mem 794 (by decide +kernel) (by decide +kernel), (by decide +kernel), (by decide +kernel)⟩
theorem mi_K_tell : Cond.instanceMethod M_K_tell.1 ∈ hv_tbl := hv_mem 793 (by decide +kernel) (by decide +kernel)
theorem mv_K_tell : Cond.selects M_K_tell.1.cls M_K_tell.1 M_K_tell.1 ∈ hv_tbl := hv_mem 50 (by decide +kernel) (by decide +kernel)
abbrev M_K_raise : hv_M := (⟨"NetworkOrdersModel", "raise", "(I)J"⟩, prog_7_method_3_code, 2, some .long)
theorem mB_K_raise : hv_mB M_K_raise 1 := ⟨hv_mem 63 (by decide +kernel) (by decide +kernel), hv_mem 798 (by decide +kernel) (by decide +kernel), (by decide +kernel), (by decide +kernel)⟩
theorem mi_K_raise : Cond.instanceMethod M_K_raise.1 ∈ hv_tbl := hv_mem 797 (by decide +kernel) (by decide +kernel)
theorem mv_K_raise : Cond.selects M_K_raise.1.cls M_K_raise.1 M_K_raise.1 ∈ hv_tbl := hv_mem 51 (by decide +kernel) (by decide +kernel)
abbrev M_K_sumUp : hv_M := (⟨"NetworkOrdersModel", "sumUp", "(I)V"⟩, prog_7_method_30_code, 5, none)
theorem mB_K_sumUp : hv_mB M_K_sumUp 1 := ⟨hv_mem 63 (by decide +kernel) (by decide +kernel), hv_mem 802 (by decide +kernel) (by decide +kernel), (by decide +kernel), (by decide +kernel)⟩
theorem mi_K_sumUp : Cond.instanceMethod M_K_sumUp.1 ∈ hv_tbl := hv_mem 801 (by decide +kernel) (by decide +kernel)
theorem mv_K_sumUp : Cond.selects M_K_sumUp.1.cls M_K_sumUp.1 M_K_sumUp.1 ∈ hv_tbl := hv_mem 52 (by decide +kernel) (by decide +kernel)
abbrev M_K_order : hv_M := (⟨"NetworkOrdersModel", "order", "(I)V"⟩, prog_7_method_27_code, 6, none)
theorem mB_K_order : hv_mB M_K_order 1 := ⟨hv_mem 63 (by decide +kernel) (by decide +kernel), hv_mem 806 (by decide +kernel) (by decide +kernel), (by decide +kernel), (by decide +kernel)⟩
theorem mi_K_order : Cond.instanceMethod M_K_order.1 ∈ hv_tbl := hv_mem 805 (by decide +kernel) (by decide +kernel)
theorem mv_K_order : Cond.selects M_K_order.1.cls M_K_order.1 M_K_order.1 ∈ hv_tbl := hv_mem 53 (by decide +kernel) (by decide +kernel)
abbrev M_K_multiply : hv_M := (⟨"NetworkOrdersModel", "multiply", "(I)V"⟩, prog_7_method_29_code, 14, none)
theorem mB_K_multiply : hv_mB M_K_multiply 1 := ⟨hv_mem 63 (by decide +kernel) (by decide +kernel), hv_mem 810 (by decide +kernel) (by decide +kernel), (by decide +kernel), (by decide +kernel)⟩
theorem mi_K_multiply : Cond.instanceMethod M_K_multiply.1 ∈ hv_tbl := hv_mem 809 (by decide +kernel) (by decide +kernel)
theorem mv_K_multiply : Cond.selects M_K_multiply.1.cls M_K_multiply.1 M_K_multiply.1 ∈ hv_tbl := hv_mem 54 (by decide +kernel) (by decide +kernel)
abbrev M_K_indexOf : hv_M := (⟨"NetworkOrdersModel", "indexOf", "(I)I"⟩, prog_7_method_28_code, 4, some .int)
theorem mB_K_indexOf : hv_mB M_K_indexOf 1 := ⟨hv_mem 63 (by decide +kernel) (by decide +kernel), hv_mem 814 (by decide +kernel) (by decide +kernel), (by decide +kernel), (by decide +kernel)⟩
theorem mi_K_indexOf : Cond.instanceMethod M_K_indexOf.1 ∈ hv_tbl := hv_mem 813 (by decide +kernel) (by decide +kernel)
theorem mv_K_indexOf : Cond.selects M_K_indexOf.1.cls M_K_indexOf.1 M_K_indexOf.1 ∈ hv_tbl := hv_mem 55 (by decide +kernel) (by decide +kernel)
abbrev M_K_slope : hv_M := (⟨"NetworkOrdersModel", "slope", "(IIII)J"⟩, prog_7_method_33_code, 5, some .long)
theorem mB_K_slope : hv_mB M_K_slope 4 := ⟨hv_mem 63 (by decide +kernel) (by decide +kernel), hv_mem 818 (by decide +kernel) (by decide +kernel), (by decide +kernel), (by decide +kernel)⟩
theorem mi_K_slope : Cond.instanceMethod M_K_slope.1 ∈ hv_tbl := hv_mem 816 (by decide +kernel) (by decide +kernel)
theorem mv_K_slope : Cond.selects M_K_slope.1.cls M_K_slope.1 M_K_slope.1 ∈ hv_tbl := hv_mem 817 (by decide +kernel) (by decide +kernel)
abbrev M_K_total : hv_M := (⟨"NetworkOrdersModel", "total", "(I)I"⟩, prog_7_method_34_code, 5, some .int)
theorem mB_K_total : hv_mB M_K_total 1 := ⟨hv_mem 63 (by decide +kernel) (by decide +kernel), hv_mem 822 (by decide +kernel) (by decide +kernel), (by decide +kernel), (by decide +kernel)⟩
theorem mi_K_total : Cond.instanceMethod M_K_total.1 ∈ hv_tbl := hv_mem 820 (by decide +kernel) (by decide +kernel)
theorem mv_K_total : Cond.selects M_K_total.1.cls M_K_total.1 M_K_total.1 ∈ hv_tbl := hv_mem 821 (by decide +kernel) (by decide +kernel)
theorem ml_L_21 : hv_mL "NetworkOrdersLaw" 21 M_N_init := Or.inl (hv_mem 73 (by decide +kernel) (by decide +kernel))
theorem ml_N_50 : hv_mL "NetworkOrders" 50 M_N_forgetOrders := Or.inl (hv_mem 209 (by decide +kernel) (by decide +kernel))
theorem ml_N_97 : hv_mL "NetworkOrders" 97 M_JA_fill := Or.inl (hv_mem 213 (by decide +kernel) (by decide +kernel))
theorem ml_L_25 : hv_mL "NetworkOrdersLaw" 25 M_N_tensor := Or.inl (hv_mem 256 (by decide +kernel) (by decide +kernel))
theorem ml_T_28 : hv_mL "NetworkOrders$Tensor" 28 M_JA_fill := Or.inl (hv_mem 264 (by decide +kernel) (by decide +kernel))
theorem ml_L_30 : hv_mL "NetworkOrdersLaw" 30 M_N_leg := Or.inl (hv_mem 265 (by decide +kernel) (by decide +kernel))
theorem ml_N_67 : hv_mL "NetworkOrders" 67 M_N_isTensor := Or.inl (hv_mem 269 (by decide +kernel) (by decide +kernel))
theorem ml_N_77 : hv_mL "NetworkOrders" 77 M_N_countUse := Or.inl (hv_mem 273 (by decide +kernel) (by decide +kernel))
theorem ml_L_35 : hv_mL "NetworkOrdersLaw" 35 M_N_put := Or.inl (hv_mem 281 (by decide +kernel) (by decide +kernel))
theorem ml_N_84 : hv_mL "NetworkOrders" 84 M_N_isEntry := Or.inl (hv_mem 285 (by decide +kernel) (by decide +kernel))
theorem ml_N_88 : hv_mL "NetworkOrders" 88 M_N_isPart := Or.inl (hv_mem 289 (by decide +kernel) (by decide +kernel))
theorem ml_L_40 : hv_mL "NetworkOrdersLaw" 40 M_N_clear := Or.inl (hv_mem 292 (by decide +kernel) (by decide +kernel))
theorem ml_L_44 : hv_mL "NetworkOrdersLaw" 44 M_N_open := Or.inl (hv_mem 296 (by decide +kernel) (by decide +kernel))
theorem ml_N_103 : hv_mL "NetworkOrders" 103 M_N_isReady := Or.inl (hv_mem 300 (by decide +kernel) (by decide +kernel))
theorem ml_N_107 : hv_mL "NetworkOrders" 107 M_N_namesUsed := Or.inl (hv_mem 304 (by decide +kernel) (by decide +kernel))
theorem ml_L_62 : hv_mL "NetworkOrdersLaw" 62 M_N_cost := Or.inl (hv_mem 308 (by decide +kernel) (by decide +kernel))
theorem ml_N_128 : hv_mL "NetworkOrders" 128 M_N_orderOfAll := Or.inl (hv_mem 312 (by decide +kernel) (by decide +kernel))
theorem ml_N_191 : hv_mL "NetworkOrders" 191 M_N_findOrder := Or.inl (hv_mem 316 (by decide +kernel) (by decide +kernel))
theorem ml_N_144 : hv_mL "NetworkOrders" 144 M_N_takeLegs := Or.inl (hv_mem 320 (by decide +kernel) (by decide +kernel))
theorem ml_G_31 : hv_mL "NetworkOrders$GreedyRun" 31 M_G_addThing := Or.inl (hv_mem 328 (by decide +kernel) (by decide +kernel))
theorem ml_G_38 : hv_mL "NetworkOrders$GreedyRun" 38 M_JI_bitCount := Or.inl (hv_mem 332 (by decide +kernel) (by decide +kernel))
theorem ml_G_35 : hv_mL "NetworkOrders$GreedyRun" 35 M_G_choose := Or.inl (hv_mem 338 (by decide +kernel) (by decide +kernel))
theorem ml_O_27 : hv_mL "NetworkOrders$Order" 27 M_JI_numberOfTrailingZeros := Or.inl (hv_mem 350 (by decide +kernel) (by decide +kernel))
theorem ml_O_33 : hv_mL "NetworkOrders$Order" 33 M_O_isTooDear := Or.inl (hv_mem 354 (by decide +kernel) (by decide +kernel))
theorem ml_O_53 : hv_mL "NetworkOrders$Order" 53 M_JI_bitCount := Or.inl (hv_mem 358 (by decide +kernel) (by decide +kernel))
theorem ml_O_37 : hv_mL "NetworkOrders$Order" 37 M_O_partInTwo := Or.inl (hv_mem 359 (by decide +kernel) (by decide +kernel))
theorem ml_O_45 : hv_mL "NetworkOrders$Order" 45 M_O_listSteps := Or.inl (hv_mem 363 (by decide +kernel) (by decide +kernel))
theorem ml_O_49 : hv_mL "NetworkOrders$Order" 49 M_O_findMostLegs := Or.inl (hv_mem 367 (by decide +kernel) (by decide +kernel))
theorem ml_O_59 : hv_mL "NetworkOrders$Order" 59 M_JM_max := Or.inl (hv_mem 371 (by decide +kernel) (by decide +kernel))
theorem ml_L_66 : hv_mL "NetworkOrdersLaw" 66 M_N_peak := Or.inl (hv_mem 374 (by decide +kernel) (by decide +kernel))
theorem ml_L_70 : hv_mL "NetworkOrdersLaw" 70 M_N_step := Or.inl (hv_mem 378 (by decide +kernel) (by decide +kernel))
theorem ml_L_75 : hv_mL "NetworkOrdersLaw" 75 M_N_greedy := Or.inl (hv_mem 382 (by decide +kernel) (by decide +kernel))
theorem ml_L_79 : hv_mL "NetworkOrdersLaw" 79 M_N_cut := Or.inl (hv_mem 386 (by decide +kernel) (by decide +kernel))
theorem ml_N_157 : hv_mL "NetworkOrders" 157 M_N_namesBetweenTensors := Or.inl (hv_mem 390 (by decide +kernel) (by decide +kernel))
theorem ml_N_161 : hv_mL "NetworkOrders" 161 M_N_leastSingleCut := Or.inl (hv_mem 394 (by decide +kernel) (by decide +kernel))
theorem ml_N_195 : hv_mL "NetworkOrders" 195 M_N_isIn := Or.inl (hv_mem 398 (by decide +kernel) (by decide +kernel))
theorem ml_N_198 : hv_mL "NetworkOrders" 198 M_N_isLowWhenCut := Or.inl (hv_mem 399 (by decide +kernel) (by decide +kernel))
theorem ml_N_202 : hv_mL "NetworkOrders" 202 M_N_areTensorsLow := Or.inl (hv_mem 403 (by decide +kernel) (by decide +kernel))
theorem ml_N_172 : hv_mL "NetworkOrders" 172 M_JI_bitCount := Or.inl (hv_mem 407 (by decide +kernel) (by decide +kernel))
theorem ml_N_168 : hv_mL "NetworkOrders" 168 M_N_orderWhenCut := Or.inl (hv_mem 408 (by decide +kernel) (by decide +kernel))
theorem ml_N_165 : hv_mL "NetworkOrders" 165 M_N_leastDoubleCut := Or.inl (hv_mem 412 (by decide +kernel) (by decide +kernel))
theorem ml_L_83 : hv_mL "NetworkOrdersLaw" 83 M_N_costOf := Or.inl (hv_mem 416 (by decide +kernel) (by decide +kernel))
theorem ml_L_87 : hv_mL "NetworkOrdersLaw" 87 M_N_total := Or.inl (hv_mem 420 (by decide +kernel) (by decide +kernel))
theorem ml_L_7 : hv_mL "NetworkOrdersLaw" 7 M_N_value := Or.inl (hv_mem 429 (by decide +kernel) (by decide +kernel))
theorem ml_N_111 : hv_mL "NetworkOrders" 111 M_N_refuseUnknown := Or.inl (hv_mem 433 (by decide +kernel) (by decide +kernel))
theorem ml_N_125 : hv_mL "NetworkOrders" 125 M_JN_init := Or.inl (hv_mem 478 (by decide +kernel) (by decide +kernel))
theorem ml_JN_13 : hv_mL "java/util/NoSuchElementException" 13 M_JR_init := Or.inl (hv_mem 481 (by decide +kernel) (by decide +kernel))
theorem ml_JR_7 : hv_mL "java/lang/RuntimeException" 7 M_JE_init := Or.inl (hv_mem 484 (by decide +kernel) (by decide +kernel))
theorem ml_JE_7 : hv_mL "java/lang/Exception" 7 M_JT_init_L21 := Or.inl (hv_mem 487 (by decide +kernel) (by decide +kernel))
theorem ml_N_114 : hv_mL "NetworkOrders" 114 M_N_refuseHighPeak := Or.inl (hv_mem 506 (by decide +kernel) (by decide +kernel))
theorem ml_N_215 : hv_mL "NetworkOrders" 215 M_JX_init := Or.inl (hv_mem 520 (by decide +kernel) (by decide +kernel))
theorem ml_JX_7 : hv_mL "java/lang/ArithmeticException" 7 M_JR_init := Or.inl (hv_mem 523 (by decide +kernel) (by decide +kernel))
theorem ml_N_117 : hv_mL "NetworkOrders" 117 M_N_contracted := Or.inl (hv_mem 526 (by decide +kernel) (by decide +kernel))
theorem ml_N_216 : hv_mL "NetworkOrders" 216 M_N_spread := Or.inl (hv_mem 530 (by decide +kernel) (by decide +kernel))
theorem ml_C_46 : hv_mL "NetworkOrders$Contraction" 46 M_JI_bitCount := Or.inl (hv_mem 537 (by decide +kernel) (by decide +kernel))
theorem ml_C_55 : hv_mL "NetworkOrders$Contraction" 55 M_C_makeRoom := Or.inl (hv_mem 538 (by decide +kernel) (by decide +kernel))
theorem ml_C_59 : hv_mL "NetworkOrders$Contraction" 59 M_JM_max := Or.inl (hv_mem 542 (by decide +kernel) (by decide +kernel))
theorem ml_C_65 : hv_mL "NetworkOrders$Contraction" 65 M_C_take := Or.inl (hv_mem 547 (by decide +kernel) (by decide +kernel))
theorem ml_C_68 : hv_mL "NetworkOrders$Contraction" 68 M_C_add := Or.inl (hv_mem 551 (by decide +kernel) (by decide +kernel))
theorem ml_C_90 : hv_mL "NetworkOrders$Contraction" 90 M_JI_numberOfTrailingZeros := Or.inl (hv_mem 566 (by decide +kernel) (by decide +kernel))
theorem ml_C_93 : hv_mL "NetworkOrders$Contraction" 93 M_C_joinTwo := Or.inl (hv_mem 567 (by decide +kernel) (by decide +kernel))
theorem ml_C_97 : hv_mL "NetworkOrders$Contraction" 97 M_C_findMoves := Or.inl (hv_mem 571 (by decide +kernel) (by decide +kernel))
theorem ml_L_17 : hv_mL "NetworkOrdersLaw" 17 M_N_slope := Or.inl (hv_mem 586 (by decide +kernel) (by decide +kernel))
theorem ml_L_24 : hv_mL "NetworkOrdersLaw" 24 M_K_init := Or.inl (hv_mem 593 (by decide +kernel) (by decide +kernel))
theorem ml_L_55 : hv_mL "NetworkOrdersLaw" 55 M_K_thrown := Or.inl (hv_mem 692 (by decide +kernel) (by decide +kernel))
theorem ml_L_29 : hv_mL "NetworkOrdersLaw" 29 M_K_tensor := Or.inl (hv_mem 696 (by decide +kernel) (by decide +kernel))
theorem ml_L_34 : hv_mL "NetworkOrdersLaw" 34 M_K_leg := Or.inl (hv_mem 700 (by decide +kernel) (by decide +kernel))
theorem ml_K_76 : hv_mL "NetworkOrdersModel" 76 M_K_isTensor := Or.inl (hv_mem 704 (by decide +kernel) (by decide +kernel))
theorem ml_L_39 : hv_mL "NetworkOrdersLaw" 39 M_K_put := Or.inl (hv_mem 708 (by decide +kernel) (by decide +kernel))
theorem ml_K_80 : hv_mL "NetworkOrdersModel" 80 M_K_isIndex := Or.inl (hv_mem 712 (by decide +kernel) (by decide +kernel))
theorem ml_L_43 : hv_mL "NetworkOrdersLaw" 43 M_K_clear := Or.inl (hv_mem 716 (by decide +kernel) (by decide +kernel))
theorem ml_L_48 : hv_mL "NetworkOrdersLaw" 48 M_K_open := Or.inl (hv_mem 720 (by decide +kernel) (by decide +kernel))
theorem ml_K_90 : hv_mL "NetworkOrdersModel" 90 M_K_isReady := Or.inl (hv_mem 724 (by decide +kernel) (by decide +kernel))
theorem ml_L_65 : hv_mL "NetworkOrdersLaw" 65 M_K_cost := Or.inl (hv_mem 728 (by decide +kernel) (by decide +kernel))
theorem ml_K_112 : hv_mL "NetworkOrdersModel" 112 M_K_findOrder := Or.inl (hv_mem 732 (by decide +kernel) (by decide +kernel))
theorem ml_K_98 : hv_mL "NetworkOrdersModel" 98 M_K_all := Or.inl (hv_mem 736 (by decide +kernel) (by decide +kernel))
theorem ml_K_102 : hv_mL "NetworkOrdersModel" 102 M_K_findSet := Or.inl (hv_mem 740 (by decide +kernel) (by decide +kernel))
theorem ml_K_94 : hv_mL "NetworkOrdersModel" 94 M_K_count := Or.inl (hv_mem 744 (by decide +kernel) (by decide +kernel))
theorem ml_L_69 : hv_mL "NetworkOrdersLaw" 69 M_K_peak := Or.inl (hv_mem 747 (by decide +kernel) (by decide +kernel))
theorem ml_K_116 : hv_mL "NetworkOrdersModel" 116 M_K_peakNow := Or.inl (hv_mem 751 (by decide +kernel) (by decide +kernel))
theorem ml_K_109 : hv_mL "NetworkOrdersModel" 109 M_K_findSteps := Or.inl (hv_mem 755 (by decide +kernel) (by decide +kernel))
theorem ml_L_74 : hv_mL "NetworkOrdersLaw" 74 M_K_step := Or.inl (hv_mem 759 (by decide +kernel) (by decide +kernel))
theorem ml_L_82 : hv_mL "NetworkOrdersLaw" 82 M_K_cut := Or.inl (hv_mem 763 (by decide +kernel) (by decide +kernel))
theorem ml_K_119 : hv_mL "NetworkOrdersModel" 119 M_K_isEnough := Or.inl (hv_mem 767 (by decide +kernel) (by decide +kernel))
theorem ml_L_86 : hv_mL "NetworkOrdersLaw" 86 M_K_costOf := Or.inl (hv_mem 771 (by decide +kernel) (by decide +kernel))
theorem ml_L_78 : hv_mL "NetworkOrdersLaw" 78 M_K_greedy := Or.inl (hv_mem 775 (by decide +kernel) (by decide +kernel))
theorem ml_K_132 : hv_mL "NetworkOrdersModel" 132 M_K_join := Or.inl (hv_mem 779 (by decide +kernel) (by decide +kernel))
theorem ml_K_122 : hv_mL "NetworkOrdersModel" 122 M_K_gain := Or.inl (hv_mem 783 (by decide +kernel) (by decide +kernel))
theorem ml_L_54 : hv_mL "NetworkOrdersLaw" 54 M_K_value := Or.inl (hv_mem 787 (by decide +kernel) (by decide +kernel))
theorem ml_K_167 : hv_mL "NetworkOrdersModel" 167 M_K_tell := Or.inl (hv_mem 791 (by decide +kernel) (by decide +kernel))
theorem ml_K_160 : hv_mL "NetworkOrdersModel" 160 M_K_raise := Or.inl (hv_mem 795 (by decide +kernel) (by decide +kernel))
theorem ml_K_164 : hv_mL "NetworkOrdersModel" 164 M_K_sumUp := Or.inl (hv_mem 799 (by decide +kernel) (by decide +kernel))
theorem ml_K_147 : hv_mL "NetworkOrdersModel" 147 M_K_order := Or.inl (hv_mem 803 (by decide +kernel) (by decide +kernel))
theorem ml_K_157 : hv_mL "NetworkOrdersModel" 157 M_K_multiply := Or.inl (hv_mem 807 (by decide +kernel) (by decide +kernel))
theorem ml_K_138 : hv_mL "NetworkOrdersModel" 138 M_K_indexOf := Or.inl (hv_mem 811 (by decide +kernel) (by decide +kernel))
theorem ml_L_61 : hv_mL "NetworkOrdersLaw" 61 M_K_slope := Or.inl (hv_mem 815 (by decide +kernel) (by decide +kernel))
theorem ml_L_90 : hv_mL "NetworkOrdersLaw" 90 M_K_total := Or.inl (hv_mem 819 (by decide +kernel) (by decide +kernel))
theorem ml_N_15 : hv_mL "NetworkOrders" 15 M_T_init := Or.inr ⟨"NetworkOrders", hv_memN 82 (by decide +kernel) (by decide +kernel)⟩
theorem ml_N_28 : hv_mL "NetworkOrders" 28 M_O_init := Or.inr ⟨"NetworkOrders", hv_memN 113 (by decide +kernel) (by decide +kernel)⟩
theorem ml_N_38 : hv_mL "NetworkOrders" 38 M_G_init := Or.inr ⟨"NetworkOrders", hv_memN 148 (by decide +kernel) (by decide +kernel)⟩
theorem ml_N_45 : hv_mL "NetworkOrders" 45 M_C_init := Or.inr ⟨"NetworkOrders", hv_memN 176 (by decide +kernel) (by decide +kernel)⟩
theorem ml_N_57 : hv_mL "NetworkOrders" 57 M_T_makeNew := Or.inr ⟨"NetworkOrders", hv_memN 260 (by decide +kernel) (by decide +kernel)⟩
theorem ml_N_81 : hv_mL "NetworkOrders" 81 M_T_setName := Or.inr ⟨"NetworkOrders", hv_memN 277 (by decide +kernel) (by decide +kernel)⟩
theorem ml_N_147 : hv_mL "NetworkOrders" 147 M_G_joinAll := Or.inr ⟨"NetworkOrders", hv_memN 324 (by decide +kernel) (by decide +kernel)⟩
theorem ml_G_45 : hv_mL "NetworkOrders$GreedyRun" 45 M_N_isIn := Or.inr ⟨"NetworkOrders", hv_memN 343 (by decide +kernel) (by decide +kernel)⟩
theorem ml_N_187 : hv_mL "NetworkOrders" 187 M_O_find := Or.inr ⟨"NetworkOrders", hv_memN 346 (by decide +kernel) (by decide +kernel)⟩
theorem ml_N_219 : hv_mL "NetworkOrders" 219 M_C_begin := Or.inr ⟨"NetworkOrders", hv_memN 533 (by decide +kernel) (by decide +kernel)⟩
theorem ml_N_223 : hv_mL "NetworkOrders" 223 M_C_load := Or.inr ⟨"NetworkOrders", hv_memN 543 (by decide +kernel) (by decide +kernel)⟩
theorem ml_C_81 : hv_mL "NetworkOrders$Contraction" 81 M_T_namesWithBit := Or.inr ⟨"NetworkOrders", hv_memN 555 (by decide +kernel) (by decide +kernel)⟩
theorem ml_C_84 : hv_mL "NetworkOrders$Contraction" 84 M_N_gather := Or.inr ⟨"NetworkOrders", hv_memN 559 (by decide +kernel) (by decide +kernel)⟩
theorem ml_N_227 : hv_mL "NetworkOrders" 227 M_C_joinAll := Or.inr ⟨"NetworkOrders", hv_memN 562 (by decide +kernel) (by decide +kernel)⟩
theorem ml_C_101 : hv_mL "NetworkOrders$Contraction" 101 M_N_isIn := Or.inr ⟨"NetworkOrders", hv_memN 574 (by decide +kernel) (by decide +kernel)⟩
theorem ml_N_229 : hv_mL "NetworkOrders" 229 M_C_resultReal := Or.inr ⟨"NetworkOrders", hv_memN 575 (by decide +kernel) (by decide +kernel)⟩
theorem ml_N_233 : hv_mL "NetworkOrders" 233 M_C_resultImaginary := Or.inr ⟨"NetworkOrders", hv_memN 579 (by decide +kernel) (by decide +kernel)⟩
theorem nw_L_8 : hv_nw "NetworkOrdersLaw" 8 4 13 [.null, .null, .null, .null, .null, .null, .null, .null, .int 0, .int 0, .int 0, .int 0, .int 0] := ⟨RX4, TX4, tyX4, cl_4, hv_mem 71 (by decide +kernel) (by decide +kernel), hv_mem 72 (by decide +kernel) (by decide +kernel), hv_mem 57 (by decide +kernel) (by decide +kernel), by decide +kernel⟩
theorem cln_L_8 : Cond.classLink "NetworkOrdersLaw" 8 "NetworkOrders" ∈ hv_tbl := hv_mem 71 (by decide +kernel) (by decide +kernel)
theorem nw_N_9 : hv_nw "NetworkOrders" 9 3 5 [.null, .null, .null, .int 0, .int 0] := ⟨RX3, TX3, tyX3, cl_3, hv_mem 79 (by decide +kernel) (by decide +kernel), hv_mem 81 (by decide +kernel) (by decide +kernel), hv_mem 58 (by decide +kernel) (by decide +kernel), by decide +kernel⟩
theorem cln_N_9 : Cond.classLink "NetworkOrders" 9 "NetworkOrders$Tensor" ∈ hv_tbl := hv_mem 79 (by decide +kernel) (by decide +kernel)
theorem nw_N_26 : hv_nw "NetworkOrders" 26 2 7 [.null, .null, .null, .null, .null, .int 0, .int 0] := ⟨RX2, TX2, tyX2, cl_2, hv_mem 111 (by decide +kernel) (by decide +kernel), hv_mem 112 (by decide +kernel) (by decide +kernel), hv_mem 59 (by decide +kernel) (by decide +kernel), by decide +kernel⟩
theorem cln_N_26 : Cond.classLink "NetworkOrders" 26 "NetworkOrders$Order" ∈ hv_tbl := hv_mem 111 (by decide +kernel) (by decide +kernel)
theorem nw_N_36 : hv_nw "NetworkOrders" 36 1 6 [.null, .null, .null, .null, .int 0, .int 0] := ⟨RX1, TX1, tyX1, cl_1, hv_mem 146 (by decide +kernel) (by decide +kernel), hv_mem 147 (by decide +kernel) (by decide +kernel), hv_mem 60 (by decide +kernel) (by decide +kernel), by decide +kernel⟩
theorem cln_N_36 : Cond.classLink "NetworkOrders" 36 "NetworkOrders$GreedyRun" ∈ hv_tbl := hv_mem 146 (by decide +kernel) (by decide +kernel)
theorem nw_N_43 : hv_nw "NetworkOrders" 43 0 9 [.null, .null, .null, .null, .null, .null, .null, .int 0, .int 0] := ⟨RX0, TX0, tyX0, cl_0, hv_mem 174 (by decide +kernel) (by decide +kernel), hv_mem 175 (by decide +kernel) (by decide +kernel), hv_mem 61 (by decide +kernel) (by decide +kernel), by decide +kernel⟩
theorem cln_N_43 : Cond.classLink "NetworkOrders" 43 "NetworkOrders$Contraction" ∈ hv_tbl := hv_mem 174 (by decide +kernel) (by decide +kernel)
theorem nw_L_22 : hv_nw "NetworkOrdersLaw" 22 5 31 [.int 0, .int 0, .null, .null, .null, .null, .int 0, .int 0, .null, .null, .null, .null, .int 0, .null, .null, .null, .null, .null, .null, .int 0, .int 0, .null, .null, .int 0, .null, .null, .null, .long 0, .long 0, .int 0, .int 0] := ⟨RX5, TX5, tyX5, cl_5, hv_mem 591 (by decide +kernel) (by decide +kernel), hv_mem 592 (by decide +kernel) (by decide +kernel), hv_mem 63 (by decide +kernel) (by decide +kernel), by decide +kernel⟩
theorem cln_L_22 : Cond.classLink "NetworkOrdersLaw" 22 "NetworkOrdersModel" ∈ hv_tbl := hv_mem 591 (by decide +kernel) (by decide +kernel)
theorem kc_JI_265 : Cond.constant "java/lang/Integer" 265 1431655765 ∈ hv_tbl := hv_mem 335 (by decide +kernel) (by decide +kernel)
theorem kc_JI_266 : Cond.constant "java/lang/Integer" 266 858993459 ∈ hv_tbl := hv_mem 336 (by decide +kernel) (by decide +kernel)
theorem kc_JI_267 : Cond.constant "java/lang/Integer" 267 252645135 ∈ hv_tbl := hv_mem 337 (by decide +kernel) (by decide +kernel)
theorem kc_G_44 : Cond.constant "NetworkOrders$GreedyRun" 44 1073741824 ∈ hv_tbl := hv_mem 342 (by decide +kernel) (by decide +kernel)
theorem kc_JI_264 : Cond.constant "java/lang/Integer" 264 65536 ∈ hv_tbl := hv_mem 353 (by decide +kernel) (by decide +kernel)
theorem ac_int : Cond.arrayClass .int ∈ hv_tbl := hv_mem 110 (by decide +kernel) (by decide +kernel)
theorem ac_long : Cond.arrayClass .long ∈ hv_tbl := hv_mem 208 (by decide +kernel) (by decide +kernel)
theorem ac_boolean : Cond.arrayClass .boolean ∈ hv_tbl := hv_mem 691 (by decide +kernel) (by decide +kernel)
theorem oi_N_3 : Cond.methodLink "NetworkOrders" 3 objectInit ∈ hv_tbl := hv_mem 76 (by decide +kernel) (by decide +kernel)
theorem oi_T_3 : Cond.methodLink "NetworkOrders$Tensor" 3 objectInit ∈ hv_tbl := hv_mem 85 (by decide +kernel) (by decide +kernel)
theorem oi_O_3 : Cond.methodLink "NetworkOrders$Order" 3 objectInit ∈ hv_tbl := hv_mem 116 (by decide +kernel) (by decide +kernel)
theorem oi_G_3 : Cond.methodLink "NetworkOrders$GreedyRun" 3 objectInit ∈ hv_tbl := hv_mem 151 (by decide +kernel) (by decide +kernel)
theorem oi_C_3 : Cond.methodLink "NetworkOrders$Contraction" 3 objectInit ∈ hv_tbl := hv_mem 179 (by decide +kernel) (by decide +kernel)
theorem oi_JT_1 : Cond.methodLink "java/lang/Throwable" 1 objectInit ∈ hv_tbl := hv_mem 462 (by decide +kernel) (by decide +kernel)
theorem oi_K_1 : Cond.methodLink "NetworkOrdersModel" 1 objectInit ∈ hv_tbl := hv_mem 596 (by decide +kernel) (by decide +kernel)
theorem oi_inst : Cond.instanceMethod objectInit ∈ hv_tbl := hv_mem 77 (by decide +kernel) (by decide +kernel)
theorem oi_code : Cond.code objectInit ⟨#[0xb1]⟩ 1 none ∈ hv_tbl := hv_mem 78 (by decide +kernel) (by decide +kernel)
end
section
-- DECODE rows, laid by program
theorem d_T_init_0 : decode prog_5_method_1_code 0 = .ok (.aload_n 0, 1) := by decide +kernel
theorem d_T_init_1 : decode prog_5_method_1_code 1 = .ok (.invokespecial 3, 3) := by decide +kernel
theorem d_T_init_4 : decode prog_5_method_1_code 4 = .ok (.aload_n 0, 1) := by decide +kernel
theorem d_T_init_5 : decode prog_5_method_1_code 5 = .ok (.bipush 6, 2) := by decide +kernel
theorem d_T_init_7 : decode prog_5_method_1_code 7 = .ok (.newarray .int, 2) := by decide +kernel
theorem d_T_init_9 : decode prog_5_method_1_code 9 = .ok (.putfield 9, 3) := by decide +kernel
theorem d_T_init_12 : decode prog_5_method_1_code 12 = .ok (.aload_n 0, 1) := by decide +kernel
theorem d_T_init_13 : decode prog_5_method_1_code 13 = .ok (.bipush 64, 2) := by decide +kernel
theorem d_T_init_15 : decode prog_5_method_1_code 15 = .ok (.newarray .int, 2) := by decide +kernel
theorem d_T_init_17 : decode prog_5_method_1_code 17 = .ok (.putfield 15, 3) := by decide +kernel
theorem d_T_init_20 : decode prog_5_method_1_code 20 = .ok (.aload_n 0, 1) := by decide +kernel
theorem d_T_init_21 : decode prog_5_method_1_code 21 = .ok (.bipush 64, 2) := by decide +kernel
theorem d_T_init_23 : decode prog_5_method_1_code 23 = .ok (.newarray .int, 2) := by decide +kernel
theorem d_T_init_25 : decode prog_5_method_1_code 25 = .ok (.putfield 18, 3) := by decide +kernel
theorem d_T_init_28 : decode prog_5_method_1_code 28 = .ok (.return_, 1) := by decide +kernel
theorem d_O_init_0 : decode prog_4_method_1_code 0 = .ok (.aload_n 0, 1) := by decide +kernel
theorem d_O_init_1 : decode prog_4_method_1_code 1 = .ok (.invokespecial 3, 3) := by decide +kernel
theorem d_O_init_4 : decode prog_4_method_1_code 4 = .ok (.aload_n 0, 1) := by decide +kernel
theorem d_O_init_5 : decode prog_4_method_1_code 5 = .ok (.sipush 1024, 3) := by decide +kernel
theorem d_O_init_8 : decode prog_4_method_1_code 8 = .ok (.newarray .int, 2) := by decide +kernel
theorem d_O_init_10 : decode prog_4_method_1_code 10 = .ok (.putfield 9, 3) := by decide +kernel
theorem d_O_init_13 : decode prog_4_method_1_code 13 = .ok (.aload_n 0, 1) := by decide +kernel
theorem d_O_init_14 : decode prog_4_method_1_code 14 = .ok (.sipush 1024, 3) := by decide +kernel
theorem d_O_init_17 : decode prog_4_method_1_code 17 = .ok (.newarray .int, 2) := by decide +kernel
theorem d_O_init_19 : decode prog_4_method_1_code 19 = .ok (.putfield 15, 3) := by decide +kernel
theorem d_O_init_22 : decode prog_4_method_1_code 22 = .ok (.aload_n 0, 1) := by decide +kernel
theorem d_O_init_23 : decode prog_4_method_1_code 23 = .ok (.sipush 1024, 3) := by decide +kernel
theorem d_O_init_26 : decode prog_4_method_1_code 26 = .ok (.newarray .int, 2) := by decide +kernel
theorem d_O_init_28 : decode prog_4_method_1_code 28 = .ok (.putfield 18, 3) := by decide +kernel
theorem d_O_init_31 : decode prog_4_method_1_code 31 = .ok (.aload_n 0, 1) := by decide +kernel
theorem d_O_init_32 : decode prog_4_method_1_code 32 = .ok (.bipush 10, 2) := by decide +kernel
theorem d_O_init_34 : decode prog_4_method_1_code 34 = .ok (.newarray .int, 2) := by decide +kernel
theorem d_O_init_36 : decode prog_4_method_1_code 36 = .ok (.putfield 21, 3) := by decide +kernel
theorem d_O_init_39 : decode prog_4_method_1_code 39 = .ok (.aload_n 0, 1) := by decide +kernel
theorem d_O_init_40 : decode prog_4_method_1_code 40 = .ok (.bipush 11, 2) := by decide +kernel
theorem d_O_init_42 : decode prog_4_method_1_code 42 = .ok (.newarray .int, 2) := by decide +kernel
theorem d_O_init_44 : decode prog_4_method_1_code 44 = .ok (.putfield 24, 3) := by decide +kernel
theorem d_O_init_47 : decode prog_4_method_1_code 47 = .ok (.return_, 1) := by decide +kernel
theorem d_G_init_0 : decode prog_3_method_1_code 0 = .ok (.aload_n 0, 1) := by decide +kernel
theorem d_G_init_1 : decode prog_3_method_1_code 1 = .ok (.invokespecial 3, 3) := by decide +kernel
theorem d_G_init_4 : decode prog_3_method_1_code 4 = .ok (.aload_n 0, 1) := by decide +kernel
theorem d_G_init_5 : decode prog_3_method_1_code 5 = .ok (.bipush 20, 2) := by decide +kernel
theorem d_G_init_7 : decode prog_3_method_1_code 7 = .ok (.newarray .int, 2) := by decide +kernel
theorem d_G_init_9 : decode prog_3_method_1_code 9 = .ok (.putfield 9, 3) := by decide +kernel
theorem d_G_init_12 : decode prog_3_method_1_code 12 = .ok (.aload_n 0, 1) := by decide +kernel
theorem d_G_init_13 : decode prog_3_method_1_code 13 = .ok (.bipush 20, 2) := by decide +kernel
theorem d_G_init_15 : decode prog_3_method_1_code 15 = .ok (.newarray .int, 2) := by decide +kernel
theorem d_G_init_17 : decode prog_3_method_1_code 17 = .ok (.putfield 15, 3) := by decide +kernel
theorem d_G_init_20 : decode prog_3_method_1_code 20 = .ok (.aload_n 0, 1) := by decide +kernel
theorem d_G_init_21 : decode prog_3_method_1_code 21 = .ok (.bipush 10, 2) := by decide +kernel
theorem d_G_init_23 : decode prog_3_method_1_code 23 = .ok (.newarray .int, 2) := by decide +kernel
theorem d_G_init_25 : decode prog_3_method_1_code 25 = .ok (.putfield 18, 3) := by decide +kernel
theorem d_G_init_28 : decode prog_3_method_1_code 28 = .ok (.aload_n 0, 1) := by decide +kernel
theorem d_G_init_29 : decode prog_3_method_1_code 29 = .ok (.bipush 10, 2) := by decide +kernel
theorem d_G_init_31 : decode prog_3_method_1_code 31 = .ok (.newarray .int, 2) := by decide +kernel
theorem d_G_init_33 : decode prog_3_method_1_code 33 = .ok (.putfield 21, 3) := by decide +kernel
theorem d_G_init_36 : decode prog_3_method_1_code 36 = .ok (.return_, 1) := by decide +kernel
theorem d_C_init_0 : decode prog_2_method_1_code 0 = .ok (.aload_n 0, 1) := by decide +kernel
theorem d_C_init_1 : decode prog_2_method_1_code 1 = .ok (.invokespecial 3, 3) := by decide +kernel
theorem d_C_init_4 : decode prog_2_method_1_code 4 = .ok (.aload_n 0, 1) := by decide +kernel
theorem d_C_init_5 : decode prog_2_method_1_code 5 = .ok (.bipush 10, 2) := by decide +kernel
theorem d_C_init_7 : decode prog_2_method_1_code 7 = .ok (.newarray .int, 2) := by decide +kernel
theorem d_C_init_9 : decode prog_2_method_1_code 9 = .ok (.putfield 9, 3) := by decide +kernel
theorem d_C_init_12 : decode prog_2_method_1_code 12 = .ok (.aload_n 0, 1) := by decide +kernel
theorem d_C_init_13 : decode prog_2_method_1_code 13 = .ok (.bipush 10, 2) := by decide +kernel
theorem d_C_init_15 : decode prog_2_method_1_code 15 = .ok (.newarray .int, 2) := by decide +kernel
theorem d_C_init_17 : decode prog_2_method_1_code 17 = .ok (.putfield 15, 3) := by decide +kernel
theorem d_C_init_20 : decode prog_2_method_1_code 20 = .ok (.aload_n 0, 1) := by decide +kernel
theorem d_C_init_21 : decode prog_2_method_1_code 21 = .ok (.bipush 21, 2) := by decide +kernel
theorem d_C_init_23 : decode prog_2_method_1_code 23 = .ok (.newarray .int, 2) := by decide +kernel
theorem d_C_init_25 : decode prog_2_method_1_code 25 = .ok (.putfield 18, 3) := by decide +kernel
theorem d_C_init_28 : decode prog_2_method_1_code 28 = .ok (.aload_n 0, 1) := by decide +kernel
theorem d_C_init_29 : decode prog_2_method_1_code 29 = .ok (.bipush 21, 2) := by decide +kernel
theorem d_C_init_31 : decode prog_2_method_1_code 31 = .ok (.newarray .int, 2) := by decide +kernel
theorem d_C_init_33 : decode prog_2_method_1_code 33 = .ok (.putfield 21, 3) := by decide +kernel
theorem d_C_init_36 : decode prog_2_method_1_code 36 = .ok (.aload_n 0, 1) := by decide +kernel
theorem d_C_init_37 : decode prog_2_method_1_code 37 = .ok (.bipush 21, 2) := by decide +kernel
theorem d_C_init_39 : decode prog_2_method_1_code 39 = .ok (.newarray .int, 2) := by decide +kernel
theorem d_C_init_41 : decode prog_2_method_1_code 41 = .ok (.putfield 24, 3) := by decide +kernel
theorem d_C_init_44 : decode prog_2_method_1_code 44 = .ok (.aload_n 0, 1) := by decide +kernel
theorem d_C_init_45 : decode prog_2_method_1_code 45 = .ok (.bipush 64, 2) := by decide +kernel
theorem d_C_init_47 : decode prog_2_method_1_code 47 = .ok (.newarray .long, 2) := by decide +kernel
theorem d_C_init_49 : decode prog_2_method_1_code 49 = .ok (.putfield 27, 3) := by decide +kernel
theorem d_C_init_52 : decode prog_2_method_1_code 52 = .ok (.aload_n 0, 1) := by decide +kernel
theorem d_C_init_53 : decode prog_2_method_1_code 53 = .ok (.bipush 64, 2) := by decide +kernel
theorem d_C_init_55 : decode prog_2_method_1_code 55 = .ok (.newarray .long, 2) := by decide +kernel
theorem d_C_init_57 : decode prog_2_method_1_code 57 = .ok (.putfield 31, 3) := by decide +kernel
theorem d_C_init_60 : decode prog_2_method_1_code 60 = .ok (.return_, 1) := by decide +kernel
theorem d_T_makeNew_0 : decode prog_5_method_2_code 0 = .ok (.aload_n 0, 1) := by decide +kernel
theorem d_T_makeNew_1 : decode prog_5_method_2_code 1 = .ok (.iload_n 1, 1) := by decide +kernel
theorem d_T_makeNew_2 : decode prog_5_method_2_code 2 = .ok (.putfield 21, 3) := by decide +kernel
theorem d_T_makeNew_5 : decode prog_5_method_2_code 5 = .ok (.aload_n 0, 1) := by decide +kernel
theorem d_T_makeNew_6 : decode prog_5_method_2_code 6 = .ok (.iconst 0, 1) := by decide +kernel
theorem d_T_makeNew_7 : decode prog_5_method_2_code 7 = .ok (.putfield 25, 3) := by decide +kernel
theorem d_T_makeNew_10 : decode prog_5_method_2_code 10 = .ok (.aload_n 0, 1) := by decide +kernel
theorem d_T_makeNew_11 : decode prog_5_method_2_code 11 = .ok (.getfield 9, 3) := by decide +kernel
theorem d_T_makeNew_14 : decode prog_5_method_2_code 14 = .ok (.iconst (-1), 1) := by decide +kernel
theorem d_T_makeNew_15 : decode prog_5_method_2_code 15 = .ok (.invokestatic 28, 3) := by decide +kernel
theorem d_T_makeNew_18 : decode prog_5_method_2_code 18 = .ok (.aload_n 0, 1) := by decide +kernel
theorem d_T_makeNew_19 : decode prog_5_method_2_code 19 = .ok (.getfield 15, 3) := by decide +kernel
theorem d_T_makeNew_22 : decode prog_5_method_2_code 22 = .ok (.iconst 0, 1) := by decide +kernel
theorem d_T_makeNew_23 : decode prog_5_method_2_code 23 = .ok (.invokestatic 28, 3) := by decide +kernel
theorem d_T_makeNew_26 : decode prog_5_method_2_code 26 = .ok (.aload_n 0, 1) := by decide +kernel
theorem d_T_makeNew_27 : decode prog_5_method_2_code 27 = .ok (.getfield 18, 3) := by decide +kernel
theorem d_T_makeNew_30 : decode prog_5_method_2_code 30 = .ok (.iconst 0, 1) := by decide +kernel
theorem d_T_makeNew_31 : decode prog_5_method_2_code 31 = .ok (.invokestatic 28, 3) := by decide +kernel
theorem d_T_makeNew_34 : decode prog_5_method_2_code 34 = .ok (.return_, 1) := by decide +kernel
theorem d_T_setName_0 : decode prog_5_method_3_code 0 = .ok (.aload_n 0, 1) := by decide +kernel
theorem d_T_setName_1 : decode prog_5_method_3_code 1 = .ok (.getfield 9, 3) := by decide +kernel
theorem d_T_setName_4 : decode prog_5_method_3_code 4 = .ok (.iload_n 1, 1) := by decide +kernel
theorem d_T_setName_5 : decode prog_5_method_3_code 5 = .ok (.iload_n 2, 1) := by decide +kernel
theorem d_T_setName_6 : decode prog_5_method_3_code 6 = .ok (.iastore, 1) := by decide +kernel
theorem d_T_setName_7 : decode prog_5_method_3_code 7 = .ok (.aload_n 0, 1) := by decide +kernel
theorem d_T_setName_8 : decode prog_5_method_3_code 8 = .ok (.iconst 0, 1) := by decide +kernel
theorem d_T_setName_9 : decode prog_5_method_3_code 9 = .ok (.putfield 25, 3) := by decide +kernel
theorem d_T_setName_12 : decode prog_5_method_3_code 12 = .ok (.iconst 0, 1) := by decide +kernel
theorem d_T_setName_13 : decode prog_5_method_3_code 13 = .ok (.istore_n 3, 1) := by decide +kernel
theorem d_T_setName_14 : decode prog_5_method_3_code 14 = .ok (.iload_n 3, 1) := by decide +kernel
theorem d_T_setName_15 : decode prog_5_method_3_code 15 = .ok (.aload_n 0, 1) := by decide +kernel
theorem d_T_setName_16 : decode prog_5_method_3_code 16 = .ok (.getfield 21, 3) := by decide +kernel
theorem d_T_setName_19 : decode prog_5_method_3_code 19 = .ok (.if_icmp .ge 36, 3) := by decide +kernel
theorem d_T_setName_22 : decode prog_5_method_3_code 22 = .ok (.aload_n 0, 1) := by decide +kernel
theorem d_T_setName_23 : decode prog_5_method_3_code 23 = .ok (.getfield 9, 3) := by decide +kernel
theorem d_T_setName_26 : decode prog_5_method_3_code 26 = .ok (.iload_n 3, 1) := by decide +kernel
theorem d_T_setName_27 : decode prog_5_method_3_code 27 = .ok (.iaload, 1) := by decide +kernel
theorem d_T_setName_28 : decode prog_5_method_3_code 28 = .ok (.iconst (-1), 1) := by decide +kernel
theorem d_T_setName_29 : decode prog_5_method_3_code 29 = .ok (.if_icmp .eq 20, 3) := by decide +kernel
theorem d_T_setName_32 : decode prog_5_method_3_code 32 = .ok (.aload_n 0, 1) := by decide +kernel
theorem d_T_setName_33 : decode prog_5_method_3_code 33 = .ok (.dup, 1) := by decide +kernel
theorem d_T_setName_34 : decode prog_5_method_3_code 34 = .ok (.getfield 25, 3) := by decide +kernel
theorem d_T_setName_37 : decode prog_5_method_3_code 37 = .ok (.iconst 1, 1) := by decide +kernel
theorem d_T_setName_38 : decode prog_5_method_3_code 38 = .ok (.aload_n 0, 1) := by decide +kernel
theorem d_T_setName_39 : decode prog_5_method_3_code 39 = .ok (.getfield 9, 3) := by decide +kernel
theorem d_T_setName_42 : decode prog_5_method_3_code 42 = .ok (.iload_n 3, 1) := by decide +kernel
theorem d_T_setName_43 : decode prog_5_method_3_code 43 = .ok (.iaload, 1) := by decide +kernel
theorem d_T_setName_44 : decode prog_5_method_3_code 44 = .ok (.ishl, 1) := by decide +kernel
theorem d_T_setName_45 : decode prog_5_method_3_code 45 = .ok (.ixor, 1) := by decide +kernel
theorem d_T_setName_46 : decode prog_5_method_3_code 46 = .ok (.putfield 25, 3) := by decide +kernel
theorem d_T_setName_49 : decode prog_5_method_3_code 49 = .ok (.iinc 3 1, 3) := by decide +kernel
theorem d_T_setName_52 : decode prog_5_method_3_code 52 = .ok (.goto (-38), 3) := by decide +kernel
theorem d_T_setName_55 : decode prog_5_method_3_code 55 = .ok (.return_, 1) := by decide +kernel
theorem d_G_joinAll_0 : decode prog_3_method_2_code 0 = .ok (.aload_n 0, 1) := by decide +kernel
theorem d_G_joinAll_1 : decode prog_3_method_2_code 1 = .ok (.iconst 0, 1) := by decide +kernel
theorem d_G_joinAll_2 : decode prog_3_method_2_code 2 = .ok (.putfield 24, 3) := by decide +kernel
theorem d_G_joinAll_5 : decode prog_3_method_2_code 5 = .ok (.aload_n 0, 1) := by decide +kernel
theorem d_G_joinAll_6 : decode prog_3_method_2_code 6 = .ok (.iconst 0, 1) := by decide +kernel
theorem d_G_joinAll_7 : decode prog_3_method_2_code 7 = .ok (.putfield 28, 3) := by decide +kernel
theorem d_G_joinAll_10 : decode prog_3_method_2_code 10 = .ok (.iconst 0, 1) := by decide +kernel
theorem d_G_joinAll_11 : decode prog_3_method_2_code 11 = .ok (.istore_n 3, 1) := by decide +kernel
theorem d_G_joinAll_12 : decode prog_3_method_2_code 12 = .ok (.iload_n 3, 1) := by decide +kernel
theorem d_G_joinAll_13 : decode prog_3_method_2_code 13 = .ok (.iload_n 2, 1) := by decide +kernel
theorem d_G_joinAll_14 : decode prog_3_method_2_code 14 = .ok (.if_icmp .ge 17, 3) := by decide +kernel
theorem d_G_joinAll_17 : decode prog_3_method_2_code 17 = .ok (.aload_n 0, 1) := by decide +kernel
theorem d_G_joinAll_18 : decode prog_3_method_2_code 18 = .ok (.iload_n 3, 1) := by decide +kernel
theorem d_G_joinAll_19 : decode prog_3_method_2_code 19 = .ok (.aload_n 1, 1) := by decide +kernel
theorem d_G_joinAll_20 : decode prog_3_method_2_code 20 = .ok (.iload_n 3, 1) := by decide +kernel
theorem d_G_joinAll_21 : decode prog_3_method_2_code 21 = .ok (.iaload, 1) := by decide +kernel
theorem d_G_joinAll_22 : decode prog_3_method_2_code 22 = .ok (.invokevirtual 31, 3) := by decide +kernel
theorem d_G_joinAll_25 : decode prog_3_method_2_code 25 = .ok (.iinc 3 1, 3) := by decide +kernel
theorem d_G_joinAll_28 : decode prog_3_method_2_code 28 = .ok (.goto (-16), 3) := by decide +kernel
theorem d_G_joinAll_31 : decode prog_3_method_2_code 31 = .ok (.iconst 0, 1) := by decide +kernel
theorem d_G_joinAll_32 : decode prog_3_method_2_code 32 = .ok (.istore_n 3, 1) := by decide +kernel
theorem d_G_joinAll_33 : decode prog_3_method_2_code 33 = .ok (.iload_n 3, 1) := by decide +kernel
theorem d_G_joinAll_34 : decode prog_3_method_2_code 34 = .ok (.iload_n 2, 1) := by decide +kernel
theorem d_G_joinAll_35 : decode prog_3_method_2_code 35 = .ok (.iconst 1, 1) := by decide +kernel
theorem d_G_joinAll_36 : decode prog_3_method_2_code 36 = .ok (.isub, 1) := by decide +kernel
theorem d_G_joinAll_37 : decode prog_3_method_2_code 37 = .ok (.if_icmp .ge 102, 3) := by decide +kernel
theorem d_G_joinAll_40 : decode prog_3_method_2_code 40 = .ok (.aload_n 0, 1) := by decide +kernel
theorem d_G_joinAll_41 : decode prog_3_method_2_code 41 = .ok (.iload_n 3, 1) := by decide +kernel
theorem d_G_joinAll_42 : decode prog_3_method_2_code 42 = .ok (.iload_n 2, 1) := by decide +kernel
theorem d_G_joinAll_43 : decode prog_3_method_2_code 43 = .ok (.iload_n 3, 1) := by decide +kernel
theorem d_G_joinAll_44 : decode prog_3_method_2_code 44 = .ok (.iadd, 1) := by decide +kernel
theorem d_G_joinAll_45 : decode prog_3_method_2_code 45 = .ok (.invokevirtual 35, 3) := by decide +kernel
theorem d_G_joinAll_48 : decode prog_3_method_2_code 48 = .ok (.aload_n 0, 1) := by decide +kernel
theorem d_G_joinAll_49 : decode prog_3_method_2_code 49 = .ok (.getfield 18, 3) := by decide +kernel
theorem d_G_joinAll_52 : decode prog_3_method_2_code 52 = .ok (.iload_n 3, 1) := by decide +kernel
theorem d_G_joinAll_53 : decode prog_3_method_2_code 53 = .ok (.iaload, 1) := by decide +kernel
theorem d_G_joinAll_54 : decode prog_3_method_2_code 54 = .ok (.istore 4, 2) := by decide +kernel
theorem d_G_joinAll_56 : decode prog_3_method_2_code 56 = .ok (.aload_n 0, 1) := by decide +kernel
theorem d_G_joinAll_57 : decode prog_3_method_2_code 57 = .ok (.getfield 21, 3) := by decide +kernel
theorem d_G_joinAll_60 : decode prog_3_method_2_code 60 = .ok (.iload_n 3, 1) := by decide +kernel
theorem d_G_joinAll_61 : decode prog_3_method_2_code 61 = .ok (.iaload, 1) := by decide +kernel
theorem d_G_joinAll_62 : decode prog_3_method_2_code 62 = .ok (.istore 5, 2) := by decide +kernel
theorem d_G_joinAll_64 : decode prog_3_method_2_code 64 = .ok (.aload_n 0, 1) := by decide +kernel
theorem d_G_joinAll_65 : decode prog_3_method_2_code 65 = .ok (.dup, 1) := by decide +kernel
theorem d_G_joinAll_66 : decode prog_3_method_2_code 66 = .ok (.getfield 28, 3) := by decide +kernel
theorem d_G_joinAll_69 : decode prog_3_method_2_code 69 = .ok (.iconst 1, 1) := by decide +kernel
theorem d_G_joinAll_70 : decode prog_3_method_2_code 70 = .ok (.aload_n 0, 1) := by decide +kernel
theorem d_G_joinAll_71 : decode prog_3_method_2_code 71 = .ok (.getfield 9, 3) := by decide +kernel
theorem d_G_joinAll_74 : decode prog_3_method_2_code 74 = .ok (.iload 4, 2) := by decide +kernel
theorem d_G_joinAll_76 : decode prog_3_method_2_code 76 = .ok (.iaload, 1) := by decide +kernel
theorem d_G_joinAll_77 : decode prog_3_method_2_code 77 = .ok (.aload_n 0, 1) := by decide +kernel
theorem d_G_joinAll_78 : decode prog_3_method_2_code 78 = .ok (.getfield 9, 3) := by decide +kernel
theorem d_G_joinAll_81 : decode prog_3_method_2_code 81 = .ok (.iload 5, 2) := by decide +kernel
theorem d_G_joinAll_83 : decode prog_3_method_2_code 83 = .ok (.iaload, 1) := by decide +kernel
theorem d_G_joinAll_84 : decode prog_3_method_2_code 84 = .ok (.ior, 1) := by decide +kernel
theorem d_G_joinAll_85 : decode prog_3_method_2_code 85 = .ok (.invokestatic 38, 3) := by decide +kernel
theorem d_G_joinAll_88 : decode prog_3_method_2_code 88 = .ok (.ishl, 1) := by decide +kernel
theorem d_G_joinAll_89 : decode prog_3_method_2_code 89 = .ok (.iadd, 1) := by decide +kernel
theorem d_G_joinAll_90 : decode prog_3_method_2_code 90 = .ok (.putfield 28, 3) := by decide +kernel
theorem d_G_joinAll_93 : decode prog_3_method_2_code 93 = .ok (.aload_n 0, 1) := by decide +kernel
theorem d_G_joinAll_94 : decode prog_3_method_2_code 94 = .ok (.iload_n 2, 1) := by decide +kernel
theorem d_G_joinAll_95 : decode prog_3_method_2_code 95 = .ok (.iload_n 3, 1) := by decide +kernel
theorem d_G_joinAll_96 : decode prog_3_method_2_code 96 = .ok (.iadd, 1) := by decide +kernel
theorem d_G_joinAll_97 : decode prog_3_method_2_code 97 = .ok (.aload_n 0, 1) := by decide +kernel
theorem d_G_joinAll_98 : decode prog_3_method_2_code 98 = .ok (.getfield 9, 3) := by decide +kernel
theorem d_G_joinAll_101 : decode prog_3_method_2_code 101 = .ok (.iload 4, 2) := by decide +kernel
theorem d_G_joinAll_103 : decode prog_3_method_2_code 103 = .ok (.iaload, 1) := by decide +kernel
theorem d_G_joinAll_104 : decode prog_3_method_2_code 104 = .ok (.aload_n 0, 1) := by decide +kernel
theorem d_G_joinAll_105 : decode prog_3_method_2_code 105 = .ok (.getfield 9, 3) := by decide +kernel
theorem d_G_joinAll_108 : decode prog_3_method_2_code 108 = .ok (.iload 5, 2) := by decide +kernel
theorem d_G_joinAll_110 : decode prog_3_method_2_code 110 = .ok (.iaload, 1) := by decide +kernel
theorem d_G_joinAll_111 : decode prog_3_method_2_code 111 = .ok (.ixor, 1) := by decide +kernel
theorem d_G_joinAll_112 : decode prog_3_method_2_code 112 = .ok (.invokevirtual 31, 3) := by decide +kernel
theorem d_G_joinAll_115 : decode prog_3_method_2_code 115 = .ok (.aload_n 0, 1) := by decide +kernel
theorem d_G_joinAll_116 : decode prog_3_method_2_code 116 = .ok (.dup, 1) := by decide +kernel
theorem d_G_joinAll_117 : decode prog_3_method_2_code 117 = .ok (.getfield 24, 3) := by decide +kernel
theorem d_G_joinAll_120 : decode prog_3_method_2_code 120 = .ok (.iconst 1, 1) := by decide +kernel
theorem d_G_joinAll_121 : decode prog_3_method_2_code 121 = .ok (.iload 4, 2) := by decide +kernel
theorem d_G_joinAll_123 : decode prog_3_method_2_code 123 = .ok (.ishl, 1) := by decide +kernel
theorem d_G_joinAll_124 : decode prog_3_method_2_code 124 = .ok (.iconst 1, 1) := by decide +kernel
theorem d_G_joinAll_125 : decode prog_3_method_2_code 125 = .ok (.iload 5, 2) := by decide +kernel
theorem d_G_joinAll_127 : decode prog_3_method_2_code 127 = .ok (.ishl, 1) := by decide +kernel
theorem d_G_joinAll_128 : decode prog_3_method_2_code 128 = .ok (.ior, 1) := by decide +kernel
theorem d_G_joinAll_129 : decode prog_3_method_2_code 129 = .ok (.ior, 1) := by decide +kernel
theorem d_G_joinAll_130 : decode prog_3_method_2_code 130 = .ok (.putfield 24, 3) := by decide +kernel
theorem d_G_joinAll_133 : decode prog_3_method_2_code 133 = .ok (.iinc 3 1, 3) := by decide +kernel
theorem d_G_joinAll_136 : decode prog_3_method_2_code 136 = .ok (.goto (-103), 3) := by decide +kernel
theorem d_G_joinAll_139 : decode prog_3_method_2_code 139 = .ok (.return_, 1) := by decide +kernel
theorem d_G_addThing_0 : decode prog_3_method_3_code 0 = .ok (.aload_n 0, 1) := by decide +kernel
theorem d_G_addThing_1 : decode prog_3_method_3_code 1 = .ok (.getfield 9, 3) := by decide +kernel
theorem d_G_addThing_4 : decode prog_3_method_3_code 4 = .ok (.iload_n 1, 1) := by decide +kernel
theorem d_G_addThing_5 : decode prog_3_method_3_code 5 = .ok (.iload_n 2, 1) := by decide +kernel
theorem d_G_addThing_6 : decode prog_3_method_3_code 6 = .ok (.iastore, 1) := by decide +kernel
theorem d_G_addThing_7 : decode prog_3_method_3_code 7 = .ok (.aload_n 0, 1) := by decide +kernel
theorem d_G_addThing_8 : decode prog_3_method_3_code 8 = .ok (.getfield 15, 3) := by decide +kernel
theorem d_G_addThing_11 : decode prog_3_method_3_code 11 = .ok (.iload_n 1, 1) := by decide +kernel
theorem d_G_addThing_12 : decode prog_3_method_3_code 12 = .ok (.iconst 1, 1) := by decide +kernel
theorem d_G_addThing_13 : decode prog_3_method_3_code 13 = .ok (.iload_n 2, 1) := by decide +kernel
theorem d_G_addThing_14 : decode prog_3_method_3_code 14 = .ok (.invokestatic 38, 3) := by decide +kernel
theorem d_G_addThing_17 : decode prog_3_method_3_code 17 = .ok (.ishl, 1) := by decide +kernel
theorem d_G_addThing_18 : decode prog_3_method_3_code 18 = .ok (.iastore, 1) := by decide +kernel
theorem d_G_addThing_19 : decode prog_3_method_3_code 19 = .ok (.return_, 1) := by decide +kernel
theorem d_G_choose_0 : decode prog_3_method_4_code 0 = .ok (.ldc 44, 2) := by decide +kernel
theorem d_G_choose_2 : decode prog_3_method_4_code 2 = .ok (.istore_n 3, 1) := by decide +kernel
theorem d_G_choose_3 : decode prog_3_method_4_code 3 = .ok (.iconst 0, 1) := by decide +kernel
theorem d_G_choose_4 : decode prog_3_method_4_code 4 = .ok (.istore 4, 2) := by decide +kernel
theorem d_G_choose_6 : decode prog_3_method_4_code 6 = .ok (.iload 4, 2) := by decide +kernel
theorem d_G_choose_8 : decode prog_3_method_4_code 8 = .ok (.iload_n 2, 1) := by decide +kernel
theorem d_G_choose_9 : decode prog_3_method_4_code 9 = .ok (.if_icmp .ge 118, 3) := by decide +kernel
theorem d_G_choose_12 : decode prog_3_method_4_code 12 = .ok (.iload 4, 2) := by decide +kernel
theorem d_G_choose_14 : decode prog_3_method_4_code 14 = .ok (.iconst 1, 1) := by decide +kernel
theorem d_G_choose_15 : decode prog_3_method_4_code 15 = .ok (.iadd, 1) := by decide +kernel
theorem d_G_choose_16 : decode prog_3_method_4_code 16 = .ok (.istore 5, 2) := by decide +kernel
theorem d_G_choose_18 : decode prog_3_method_4_code 18 = .ok (.iload 5, 2) := by decide +kernel
theorem d_G_choose_20 : decode prog_3_method_4_code 20 = .ok (.iload_n 2, 1) := by decide +kernel
theorem d_G_choose_21 : decode prog_3_method_4_code 21 = .ok (.if_icmp .ge 100, 3) := by decide +kernel
theorem d_G_choose_24 : decode prog_3_method_4_code 24 = .ok (.iload 4, 2) := by decide +kernel
theorem d_G_choose_26 : decode prog_3_method_4_code 26 = .ok (.aload_n 0, 1) := by decide +kernel
theorem d_G_choose_27 : decode prog_3_method_4_code 27 = .ok (.getfield 24, 3) := by decide +kernel
theorem d_G_choose_30 : decode prog_3_method_4_code 30 = .ok (.invokestatic 45, 3) := by decide +kernel
theorem d_G_choose_33 : decode prog_3_method_4_code 33 = .ok (.ifCond .ne 88, 3) := by decide +kernel
theorem d_G_choose_36 : decode prog_3_method_4_code 36 = .ok (.iconst 1, 1) := by decide +kernel
theorem d_G_choose_37 : decode prog_3_method_4_code 37 = .ok (.aload_n 0, 1) := by decide +kernel
theorem d_G_choose_38 : decode prog_3_method_4_code 38 = .ok (.getfield 9, 3) := by decide +kernel
theorem d_G_choose_41 : decode prog_3_method_4_code 41 = .ok (.iload 4, 2) := by decide +kernel
theorem d_G_choose_43 : decode prog_3_method_4_code 43 = .ok (.iaload, 1) := by decide +kernel
theorem d_G_choose_44 : decode prog_3_method_4_code 44 = .ok (.aload_n 0, 1) := by decide +kernel
theorem d_G_choose_45 : decode prog_3_method_4_code 45 = .ok (.getfield 9, 3) := by decide +kernel
theorem d_G_choose_48 : decode prog_3_method_4_code 48 = .ok (.iload 5, 2) := by decide +kernel
theorem d_G_choose_50 : decode prog_3_method_4_code 50 = .ok (.iaload, 1) := by decide +kernel
theorem d_G_choose_51 : decode prog_3_method_4_code 51 = .ok (.ixor, 1) := by decide +kernel
theorem d_G_choose_52 : decode prog_3_method_4_code 52 = .ok (.invokestatic 38, 3) := by decide +kernel
theorem d_G_choose_55 : decode prog_3_method_4_code 55 = .ok (.ishl, 1) := by decide +kernel
theorem d_G_choose_56 : decode prog_3_method_4_code 56 = .ok (.istore 6, 2) := by decide +kernel
theorem d_G_choose_58 : decode prog_3_method_4_code 58 = .ok (.iload 6, 2) := by decide +kernel
theorem d_G_choose_60 : decode prog_3_method_4_code 60 = .ok (.aload_n 0, 1) := by decide +kernel
theorem d_G_choose_61 : decode prog_3_method_4_code 61 = .ok (.getfield 15, 3) := by decide +kernel
theorem d_G_choose_64 : decode prog_3_method_4_code 64 = .ok (.iload 4, 2) := by decide +kernel
theorem d_G_choose_66 : decode prog_3_method_4_code 66 = .ok (.iaload, 1) := by decide +kernel
theorem d_G_choose_67 : decode prog_3_method_4_code 67 = .ok (.isub, 1) := by decide +kernel
theorem d_G_choose_68 : decode prog_3_method_4_code 68 = .ok (.aload_n 0, 1) := by decide +kernel
theorem d_G_choose_69 : decode prog_3_method_4_code 69 = .ok (.getfield 15, 3) := by decide +kernel
theorem d_G_choose_72 : decode prog_3_method_4_code 72 = .ok (.iload 5, 2) := by decide +kernel
theorem d_G_choose_74 : decode prog_3_method_4_code 74 = .ok (.iaload, 1) := by decide +kernel
theorem d_G_choose_75 : decode prog_3_method_4_code 75 = .ok (.isub, 1) := by decide +kernel
theorem d_G_choose_76 : decode prog_3_method_4_code 76 = .ok (.istore 7, 2) := by decide +kernel
theorem d_G_choose_78 : decode prog_3_method_4_code 78 = .ok (.iload 7, 2) := by decide +kernel
theorem d_G_choose_80 : decode prog_3_method_4_code 80 = .ok (.iload_n 3, 1) := by decide +kernel
theorem d_G_choose_81 : decode prog_3_method_4_code 81 = .ok (.if_icmp .ge 34, 3) := by decide +kernel
theorem d_G_choose_84 : decode prog_3_method_4_code 84 = .ok (.iload 5, 2) := by decide +kernel
theorem d_G_choose_86 : decode prog_3_method_4_code 86 = .ok (.aload_n 0, 1) := by decide +kernel
theorem d_G_choose_87 : decode prog_3_method_4_code 87 = .ok (.getfield 24, 3) := by decide +kernel
theorem d_G_choose_90 : decode prog_3_method_4_code 90 = .ok (.invokestatic 45, 3) := by decide +kernel
theorem d_G_choose_93 : decode prog_3_method_4_code 93 = .ok (.ifCond .ne 22, 3) := by decide +kernel
theorem d_G_choose_96 : decode prog_3_method_4_code 96 = .ok (.iload 7, 2) := by decide +kernel
theorem d_G_choose_98 : decode prog_3_method_4_code 98 = .ok (.istore_n 3, 1) := by decide +kernel
theorem d_G_choose_99 : decode prog_3_method_4_code 99 = .ok (.aload_n 0, 1) := by decide +kernel
theorem d_G_choose_100 : decode prog_3_method_4_code 100 = .ok (.getfield 18, 3) := by decide +kernel
theorem d_G_choose_103 : decode prog_3_method_4_code 103 = .ok (.iload_n 1, 1) := by decide +kernel
theorem d_G_choose_104 : decode prog_3_method_4_code 104 = .ok (.iload 4, 2) := by decide +kernel
theorem d_G_choose_106 : decode prog_3_method_4_code 106 = .ok (.iastore, 1) := by decide +kernel
theorem d_G_choose_107 : decode prog_3_method_4_code 107 = .ok (.aload_n 0, 1) := by decide +kernel
theorem d_G_choose_108 : decode prog_3_method_4_code 108 = .ok (.getfield 21, 3) := by decide +kernel
theorem d_G_choose_111 : decode prog_3_method_4_code 111 = .ok (.iload_n 1, 1) := by decide +kernel
theorem d_G_choose_112 : decode prog_3_method_4_code 112 = .ok (.iload 5, 2) := by decide +kernel
theorem d_G_choose_114 : decode prog_3_method_4_code 114 = .ok (.iastore, 1) := by decide +kernel
theorem d_G_choose_115 : decode prog_3_method_4_code 115 = .ok (.iinc 5 1, 3) := by decide +kernel
theorem d_G_choose_118 : decode prog_3_method_4_code 118 = .ok (.goto (-100), 3) := by decide +kernel
theorem d_G_choose_121 : decode prog_3_method_4_code 121 = .ok (.iinc 4 1, 3) := by decide +kernel
theorem d_G_choose_124 : decode prog_3_method_4_code 124 = .ok (.goto (-118), 3) := by decide +kernel
theorem d_G_choose_127 : decode prog_3_method_4_code 127 = .ok (.return_, 1) := by decide +kernel
theorem d_O_find_0 : decode prog_4_method_2_code 0 = .ok (.iconst 1, 1) := by decide +kernel
theorem d_O_find_1 : decode prog_4_method_2_code 1 = .ok (.iload_n 2, 1) := by decide +kernel
theorem d_O_find_2 : decode prog_4_method_2_code 2 = .ok (.ishl, 1) := by decide +kernel
theorem d_O_find_3 : decode prog_4_method_2_code 3 = .ok (.iconst 1, 1) := by decide +kernel
theorem d_O_find_4 : decode prog_4_method_2_code 4 = .ok (.isub, 1) := by decide +kernel
theorem d_O_find_5 : decode prog_4_method_2_code 5 = .ok (.istore 4, 2) := by decide +kernel
theorem d_O_find_7 : decode prog_4_method_2_code 7 = .ok (.iconst 1, 1) := by decide +kernel
theorem d_O_find_8 : decode prog_4_method_2_code 8 = .ok (.istore 5, 2) := by decide +kernel
theorem d_O_find_10 : decode prog_4_method_2_code 10 = .ok (.iload 5, 2) := by decide +kernel
theorem d_O_find_12 : decode prog_4_method_2_code 12 = .ok (.iload 4, 2) := by decide +kernel
theorem d_O_find_14 : decode prog_4_method_2_code 14 = .ok (.if_icmp .gt 95, 3) := by decide +kernel
theorem d_O_find_17 : decode prog_4_method_2_code 17 = .ok (.iload 5, 2) := by decide +kernel
theorem d_O_find_19 : decode prog_4_method_2_code 19 = .ok (.iload 5, 2) := by decide +kernel
theorem d_O_find_21 : decode prog_4_method_2_code 21 = .ok (.iconst 1, 1) := by decide +kernel
theorem d_O_find_22 : decode prog_4_method_2_code 22 = .ok (.isub, 1) := by decide +kernel
theorem d_O_find_23 : decode prog_4_method_2_code 23 = .ok (.iand, 1) := by decide +kernel
theorem d_O_find_24 : decode prog_4_method_2_code 24 = .ok (.istore 6, 2) := by decide +kernel
theorem d_O_find_26 : decode prog_4_method_2_code 26 = .ok (.aload_n 0, 1) := by decide +kernel
theorem d_O_find_27 : decode prog_4_method_2_code 27 = .ok (.getfield 9, 3) := by decide +kernel
theorem d_O_find_30 : decode prog_4_method_2_code 30 = .ok (.iload 5, 2) := by decide +kernel
theorem d_O_find_32 : decode prog_4_method_2_code 32 = .ok (.aload_n 0, 1) := by decide +kernel
theorem d_O_find_33 : decode prog_4_method_2_code 33 = .ok (.getfield 9, 3) := by decide +kernel
theorem d_O_find_36 : decode prog_4_method_2_code 36 = .ok (.iload 6, 2) := by decide +kernel
theorem d_O_find_38 : decode prog_4_method_2_code 38 = .ok (.iaload, 1) := by decide +kernel
theorem d_O_find_39 : decode prog_4_method_2_code 39 = .ok (.aload_n 1, 1) := by decide +kernel
theorem d_O_find_40 : decode prog_4_method_2_code 40 = .ok (.iload 5, 2) := by decide +kernel
theorem d_O_find_42 : decode prog_4_method_2_code 42 = .ok (.invokestatic 27, 3) := by decide +kernel
theorem d_O_find_45 : decode prog_4_method_2_code 45 = .ok (.iaload, 1) := by decide +kernel
theorem d_O_find_46 : decode prog_4_method_2_code 46 = .ok (.ixor, 1) := by decide +kernel
theorem d_O_find_47 : decode prog_4_method_2_code 47 = .ok (.iastore, 1) := by decide +kernel
theorem d_O_find_48 : decode prog_4_method_2_code 48 = .ok (.iload 6, 2) := by decide +kernel
theorem d_O_find_50 : decode prog_4_method_2_code 50 = .ok (.ifCond .ne 14, 3) := by decide +kernel
theorem d_O_find_53 : decode prog_4_method_2_code 53 = .ok (.aload_n 0, 1) := by decide +kernel
theorem d_O_find_54 : decode prog_4_method_2_code 54 = .ok (.getfield 15, 3) := by decide +kernel
theorem d_O_find_57 : decode prog_4_method_2_code 57 = .ok (.iload 5, 2) := by decide +kernel
theorem d_O_find_59 : decode prog_4_method_2_code 59 = .ok (.iconst 0, 1) := by decide +kernel
theorem d_O_find_60 : decode prog_4_method_2_code 60 = .ok (.iastore, 1) := by decide +kernel
theorem d_O_find_61 : decode prog_4_method_2_code 61 = .ok (.goto 42, 3) := by decide +kernel
theorem d_O_find_64 : decode prog_4_method_2_code 64 = .ok (.iload 5, 2) := by decide +kernel
theorem d_O_find_66 : decode prog_4_method_2_code 66 = .ok (.iload 4, 2) := by decide +kernel
theorem d_O_find_68 : decode prog_4_method_2_code 68 = .ok (.if_icmp .eq 26, 3) := by decide +kernel
theorem d_O_find_71 : decode prog_4_method_2_code 71 = .ok (.aload_n 0, 1) := by decide +kernel
theorem d_O_find_72 : decode prog_4_method_2_code 72 = .ok (.iload 5, 2) := by decide +kernel
theorem d_O_find_74 : decode prog_4_method_2_code 74 = .ok (.iload_n 3, 1) := by decide +kernel
theorem d_O_find_75 : decode prog_4_method_2_code 75 = .ok (.invokevirtual 33, 3) := by decide +kernel
theorem d_O_find_78 : decode prog_4_method_2_code 78 = .ok (.ifCond .eq 16, 3) := by decide +kernel
theorem d_O_find_81 : decode prog_4_method_2_code 81 = .ok (.aload_n 0, 1) := by decide +kernel
theorem d_O_find_82 : decode prog_4_method_2_code 82 = .ok (.getfield 15, 3) := by decide +kernel
theorem d_O_find_85 : decode prog_4_method_2_code 85 = .ok (.iload 5, 2) := by decide +kernel
theorem d_O_find_87 : decode prog_4_method_2_code 87 = .ok (.iload_n 3, 1) := by decide +kernel
theorem d_O_find_88 : decode prog_4_method_2_code 88 = .ok (.iconst 1, 1) := by decide +kernel
theorem d_O_find_89 : decode prog_4_method_2_code 89 = .ok (.iadd, 1) := by decide +kernel
theorem d_O_find_90 : decode prog_4_method_2_code 90 = .ok (.iastore, 1) := by decide +kernel
theorem d_O_find_91 : decode prog_4_method_2_code 91 = .ok (.goto 12, 3) := by decide +kernel
theorem d_O_find_94 : decode prog_4_method_2_code 94 = .ok (.aload_n 0, 1) := by decide +kernel
theorem d_O_find_95 : decode prog_4_method_2_code 95 = .ok (.iload 5, 2) := by decide +kernel
theorem d_O_find_97 : decode prog_4_method_2_code 97 = .ok (.iload 6, 2) := by decide +kernel
theorem d_O_find_99 : decode prog_4_method_2_code 99 = .ok (.iload_n 3, 1) := by decide +kernel
theorem d_O_find_100 : decode prog_4_method_2_code 100 = .ok (.invokevirtual 37, 3) := by decide +kernel
theorem d_O_find_103 : decode prog_4_method_2_code 103 = .ok (.iinc 5 1, 3) := by decide +kernel
theorem d_O_find_106 : decode prog_4_method_2_code 106 = .ok (.goto (-96), 3) := by decide +kernel
theorem d_O_find_109 : decode prog_4_method_2_code 109 = .ok (.aload_n 0, 1) := by decide +kernel
theorem d_O_find_110 : decode prog_4_method_2_code 110 = .ok (.aload_n 0, 1) := by decide +kernel
theorem d_O_find_111 : decode prog_4_method_2_code 111 = .ok (.getfield 15, 3) := by decide +kernel
theorem d_O_find_114 : decode prog_4_method_2_code 114 = .ok (.iload 4, 2) := by decide +kernel
theorem d_O_find_116 : decode prog_4_method_2_code 116 = .ok (.iaload, 1) := by decide +kernel
theorem d_O_find_117 : decode prog_4_method_2_code 117 = .ok (.putfield 41, 3) := by decide +kernel
theorem d_O_find_120 : decode prog_4_method_2_code 120 = .ok (.aload_n 0, 1) := by decide +kernel
theorem d_O_find_121 : decode prog_4_method_2_code 121 = .ok (.iload 4, 2) := by decide +kernel
theorem d_O_find_123 : decode prog_4_method_2_code 123 = .ok (.iload_n 2, 1) := by decide +kernel
theorem d_O_find_124 : decode prog_4_method_2_code 124 = .ok (.invokevirtual 45, 3) := by decide +kernel
theorem d_O_find_127 : decode prog_4_method_2_code 127 = .ok (.aload_n 0, 1) := by decide +kernel
theorem d_O_find_128 : decode prog_4_method_2_code 128 = .ok (.iload_n 2, 1) := by decide +kernel
theorem d_O_find_129 : decode prog_4_method_2_code 129 = .ok (.invokevirtual 49, 3) := by decide +kernel
theorem d_O_find_132 : decode prog_4_method_2_code 132 = .ok (.return_, 1) := by decide +kernel
theorem d_O_isTooDear_0 : decode prog_4_method_3_code 0 = .ok (.iconst 2, 1) := by decide +kernel
theorem d_O_isTooDear_1 : decode prog_4_method_3_code 1 = .ok (.aload_n 0, 1) := by decide +kernel
theorem d_O_isTooDear_2 : decode prog_4_method_3_code 2 = .ok (.getfield 9, 3) := by decide +kernel
theorem d_O_isTooDear_5 : decode prog_4_method_3_code 5 = .ok (.iload_n 1, 1) := by decide +kernel
theorem d_O_isTooDear_6 : decode prog_4_method_3_code 6 = .ok (.iaload, 1) := by decide +kernel
theorem d_O_isTooDear_7 : decode prog_4_method_3_code 7 = .ok (.invokestatic 53, 3) := by decide +kernel
theorem d_O_isTooDear_10 : decode prog_4_method_3_code 10 = .ok (.ishl, 1) := by decide +kernel
theorem d_O_isTooDear_11 : decode prog_4_method_3_code 11 = .ok (.iload_n 2, 1) := by decide +kernel
theorem d_O_isTooDear_12 : decode prog_4_method_3_code 12 = .ok (.if_icmp .le 7, 3) := by decide +kernel
theorem d_O_isTooDear_15 : decode prog_4_method_3_code 15 = .ok (.iconst 1, 1) := by decide +kernel
theorem d_O_isTooDear_16 : decode prog_4_method_3_code 16 = .ok (.goto 4, 3) := by decide +kernel
theorem d_O_isTooDear_19 : decode prog_4_method_3_code 19 = .ok (.iconst 0, 1) := by decide +kernel
theorem d_O_isTooDear_20 : decode prog_4_method_3_code 20 = .ok (.ireturn, 1) := by decide +kernel
theorem d_O_partInTwo_0 : decode prog_4_method_4_code 0 = .ok (.iload_n 1, 1) := by decide +kernel
theorem d_O_partInTwo_1 : decode prog_4_method_4_code 1 = .ok (.iload_n 2, 1) := by decide +kernel
theorem d_O_partInTwo_2 : decode prog_4_method_4_code 2 = .ok (.ixor, 1) := by decide +kernel
theorem d_O_partInTwo_3 : decode prog_4_method_4_code 3 = .ok (.istore 4, 2) := by decide +kernel
theorem d_O_partInTwo_5 : decode prog_4_method_4_code 5 = .ok (.iload_n 3, 1) := by decide +kernel
theorem d_O_partInTwo_6 : decode prog_4_method_4_code 6 = .ok (.iconst 1, 1) := by decide +kernel
theorem d_O_partInTwo_7 : decode prog_4_method_4_code 7 = .ok (.iadd, 1) := by decide +kernel
theorem d_O_partInTwo_8 : decode prog_4_method_4_code 8 = .ok (.istore 5, 2) := by decide +kernel
theorem d_O_partInTwo_10 : decode prog_4_method_4_code 10 = .ok (.iload 4, 2) := by decide +kernel
theorem d_O_partInTwo_12 : decode prog_4_method_4_code 12 = .ok (.istore 6, 2) := by decide +kernel
theorem d_O_partInTwo_14 : decode prog_4_method_4_code 14 = .ok (.iconst 0, 1) := by decide +kernel
theorem d_O_partInTwo_15 : decode prog_4_method_4_code 15 = .ok (.istore 7, 2) := by decide +kernel
theorem d_O_partInTwo_17 : decode prog_4_method_4_code 17 = .ok (.iload 7, 2) := by decide +kernel
theorem d_O_partInTwo_19 : decode prog_4_method_4_code 19 = .ok (.iload_n 2, 1) := by decide +kernel
theorem d_O_partInTwo_20 : decode prog_4_method_4_code 20 = .ok (.if_icmp .ge 91, 3) := by decide +kernel
theorem d_O_partInTwo_23 : decode prog_4_method_4_code 23 = .ok (.iload 4, 2) := by decide +kernel
theorem d_O_partInTwo_25 : decode prog_4_method_4_code 25 = .ok (.iload 7, 2) := by decide +kernel
theorem d_O_partInTwo_27 : decode prog_4_method_4_code 27 = .ok (.ior, 1) := by decide +kernel
theorem d_O_partInTwo_28 : decode prog_4_method_4_code 28 = .ok (.istore 8, 2) := by decide +kernel
theorem d_O_partInTwo_30 : decode prog_4_method_4_code 30 = .ok (.iload_n 2, 1) := by decide +kernel
theorem d_O_partInTwo_31 : decode prog_4_method_4_code 31 = .ok (.iload 7, 2) := by decide +kernel
theorem d_O_partInTwo_33 : decode prog_4_method_4_code 33 = .ok (.ixor, 1) := by decide +kernel
theorem d_O_partInTwo_34 : decode prog_4_method_4_code 34 = .ok (.istore 9, 2) := by decide +kernel
theorem d_O_partInTwo_36 : decode prog_4_method_4_code 36 = .ok (.aload_n 0, 1) := by decide +kernel
theorem d_O_partInTwo_37 : decode prog_4_method_4_code 37 = .ok (.getfield 15, 3) := by decide +kernel
theorem d_O_partInTwo_40 : decode prog_4_method_4_code 40 = .ok (.iload 8, 2) := by decide +kernel
theorem d_O_partInTwo_42 : decode prog_4_method_4_code 42 = .ok (.iaload, 1) := by decide +kernel
theorem d_O_partInTwo_43 : decode prog_4_method_4_code 43 = .ok (.aload_n 0, 1) := by decide +kernel
theorem d_O_partInTwo_44 : decode prog_4_method_4_code 44 = .ok (.getfield 15, 3) := by decide +kernel
theorem d_O_partInTwo_47 : decode prog_4_method_4_code 47 = .ok (.iload 9, 2) := by decide +kernel
theorem d_O_partInTwo_49 : decode prog_4_method_4_code 49 = .ok (.iaload, 1) := by decide +kernel
theorem d_O_partInTwo_50 : decode prog_4_method_4_code 50 = .ok (.iadd, 1) := by decide +kernel
theorem d_O_partInTwo_51 : decode prog_4_method_4_code 51 = .ok (.istore 10, 2) := by decide +kernel
theorem d_O_partInTwo_53 : decode prog_4_method_4_code 53 = .ok (.iload 10, 2) := by decide +kernel
theorem d_O_partInTwo_55 : decode prog_4_method_4_code 55 = .ok (.iload 5, 2) := by decide +kernel
theorem d_O_partInTwo_57 : decode prog_4_method_4_code 57 = .ok (.if_icmp .ge 43, 3) := by decide +kernel
theorem d_O_partInTwo_60 : decode prog_4_method_4_code 60 = .ok (.iload 10, 2) := by decide +kernel
theorem d_O_partInTwo_62 : decode prog_4_method_4_code 62 = .ok (.iconst 1, 1) := by decide +kernel
theorem d_O_partInTwo_63 : decode prog_4_method_4_code 63 = .ok (.aload_n 0, 1) := by decide +kernel
theorem d_O_partInTwo_64 : decode prog_4_method_4_code 64 = .ok (.getfield 9, 3) := by decide +kernel
theorem d_O_partInTwo_67 : decode prog_4_method_4_code 67 = .ok (.iload 8, 2) := by decide +kernel
theorem d_O_partInTwo_69 : decode prog_4_method_4_code 69 = .ok (.iaload, 1) := by decide +kernel
theorem d_O_partInTwo_70 : decode prog_4_method_4_code 70 = .ok (.aload_n 0, 1) := by decide +kernel
theorem d_O_partInTwo_71 : decode prog_4_method_4_code 71 = .ok (.getfield 9, 3) := by decide +kernel
theorem d_O_partInTwo_74 : decode prog_4_method_4_code 74 = .ok (.iload 9, 2) := by decide +kernel
theorem d_O_partInTwo_76 : decode prog_4_method_4_code 76 = .ok (.iaload, 1) := by decide +kernel
theorem d_O_partInTwo_77 : decode prog_4_method_4_code 77 = .ok (.ior, 1) := by decide +kernel
theorem d_O_partInTwo_78 : decode prog_4_method_4_code 78 = .ok (.invokestatic 53, 3) := by decide +kernel
theorem d_O_partInTwo_81 : decode prog_4_method_4_code 81 = .ok (.ishl, 1) := by decide +kernel
theorem d_O_partInTwo_82 : decode prog_4_method_4_code 82 = .ok (.iadd, 1) := by decide +kernel
theorem d_O_partInTwo_83 : decode prog_4_method_4_code 83 = .ok (.istore 10, 2) := by decide +kernel
theorem d_O_partInTwo_85 : decode prog_4_method_4_code 85 = .ok (.iload 10, 2) := by decide +kernel
theorem d_O_partInTwo_87 : decode prog_4_method_4_code 87 = .ok (.iload 5, 2) := by decide +kernel
theorem d_O_partInTwo_89 : decode prog_4_method_4_code 89 = .ok (.if_icmp .ge 11, 3) := by decide +kernel
theorem d_O_partInTwo_92 : decode prog_4_method_4_code 92 = .ok (.iload 10, 2) := by decide +kernel
theorem d_O_partInTwo_94 : decode prog_4_method_4_code 94 = .ok (.istore 5, 2) := by decide +kernel
theorem d_O_partInTwo_96 : decode prog_4_method_4_code 96 = .ok (.iload 8, 2) := by decide +kernel
theorem d_O_partInTwo_98 : decode prog_4_method_4_code 98 = .ok (.istore 6, 2) := by decide +kernel
theorem d_O_partInTwo_100 : decode prog_4_method_4_code 100 = .ok (.iload 7, 2) := by decide +kernel
theorem d_O_partInTwo_102 : decode prog_4_method_4_code 102 = .ok (.iload_n 2, 1) := by decide +kernel
theorem d_O_partInTwo_103 : decode prog_4_method_4_code 103 = .ok (.isub, 1) := by decide +kernel
theorem d_O_partInTwo_104 : decode prog_4_method_4_code 104 = .ok (.iload_n 2, 1) := by decide +kernel
theorem d_O_partInTwo_105 : decode prog_4_method_4_code 105 = .ok (.iand, 1) := by decide +kernel
theorem d_O_partInTwo_106 : decode prog_4_method_4_code 106 = .ok (.istore 7, 2) := by decide +kernel
theorem d_O_partInTwo_108 : decode prog_4_method_4_code 108 = .ok (.goto (-91), 3) := by decide +kernel
theorem d_O_partInTwo_111 : decode prog_4_method_4_code 111 = .ok (.aload_n 0, 1) := by decide +kernel
theorem d_O_partInTwo_112 : decode prog_4_method_4_code 112 = .ok (.getfield 15, 3) := by decide +kernel
theorem d_O_partInTwo_115 : decode prog_4_method_4_code 115 = .ok (.iload_n 1, 1) := by decide +kernel
theorem d_O_partInTwo_116 : decode prog_4_method_4_code 116 = .ok (.iload 5, 2) := by decide +kernel
theorem d_O_partInTwo_118 : decode prog_4_method_4_code 118 = .ok (.iastore, 1) := by decide +kernel
theorem d_O_partInTwo_119 : decode prog_4_method_4_code 119 = .ok (.aload_n 0, 1) := by decide +kernel
theorem d_O_partInTwo_120 : decode prog_4_method_4_code 120 = .ok (.getfield 18, 3) := by decide +kernel
theorem d_O_partInTwo_123 : decode prog_4_method_4_code 123 = .ok (.iload_n 1, 1) := by decide +kernel
theorem d_O_partInTwo_124 : decode prog_4_method_4_code 124 = .ok (.iload 6, 2) := by decide +kernel
theorem d_O_partInTwo_126 : decode prog_4_method_4_code 126 = .ok (.iastore, 1) := by decide +kernel
theorem d_O_partInTwo_127 : decode prog_4_method_4_code 127 = .ok (.return_, 1) := by decide +kernel
theorem d_O_listSteps_0 : decode prog_4_method_5_code 0 = .ok (.iload_n 2, 1) := by decide +kernel
theorem d_O_listSteps_1 : decode prog_4_method_5_code 1 = .ok (.iconst 1, 1) := by decide +kernel
theorem d_O_listSteps_2 : decode prog_4_method_5_code 2 = .ok (.isub, 1) := by decide +kernel
theorem d_O_listSteps_3 : decode prog_4_method_5_code 3 = .ok (.istore_n 3, 1) := by decide +kernel
theorem d_O_listSteps_4 : decode prog_4_method_5_code 4 = .ok (.iconst 0, 1) := by decide +kernel
theorem d_O_listSteps_5 : decode prog_4_method_5_code 5 = .ok (.istore 4, 2) := by decide +kernel
theorem d_O_listSteps_7 : decode prog_4_method_5_code 7 = .ok (.aload_n 0, 1) := by decide +kernel
theorem d_O_listSteps_8 : decode prog_4_method_5_code 8 = .ok (.getfield 24, 3) := by decide +kernel
theorem d_O_listSteps_11 : decode prog_4_method_5_code 11 = .ok (.iconst 0, 1) := by decide +kernel
theorem d_O_listSteps_12 : decode prog_4_method_5_code 12 = .ok (.iload_n 1, 1) := by decide +kernel
theorem d_O_listSteps_13 : decode prog_4_method_5_code 13 = .ok (.iastore, 1) := by decide +kernel
theorem d_O_listSteps_14 : decode prog_4_method_5_code 14 = .ok (.iconst 0, 1) := by decide +kernel
theorem d_O_listSteps_15 : decode prog_4_method_5_code 15 = .ok (.istore 5, 2) := by decide +kernel
theorem d_O_listSteps_17 : decode prog_4_method_5_code 17 = .ok (.iload 5, 2) := by decide +kernel
theorem d_O_listSteps_19 : decode prog_4_method_5_code 19 = .ok (.iconst 2, 1) := by decide +kernel
theorem d_O_listSteps_20 : decode prog_4_method_5_code 20 = .ok (.iload_n 2, 1) := by decide +kernel
theorem d_O_listSteps_21 : decode prog_4_method_5_code 21 = .ok (.imul, 1) := by decide +kernel
theorem d_O_listSteps_22 : decode prog_4_method_5_code 22 = .ok (.iconst 1, 1) := by decide +kernel
theorem d_O_listSteps_23 : decode prog_4_method_5_code 23 = .ok (.isub, 1) := by decide +kernel
theorem d_O_listSteps_24 : decode prog_4_method_5_code 24 = .ok (.if_icmp .ge 80, 3) := by decide +kernel
theorem d_O_listSteps_27 : decode prog_4_method_5_code 27 = .ok (.aload_n 0, 1) := by decide +kernel
theorem d_O_listSteps_28 : decode prog_4_method_5_code 28 = .ok (.getfield 24, 3) := by decide +kernel
theorem d_O_listSteps_31 : decode prog_4_method_5_code 31 = .ok (.iload 4, 2) := by decide +kernel
theorem d_O_listSteps_33 : decode prog_4_method_5_code 33 = .ok (.iaload, 1) := by decide +kernel
theorem d_O_listSteps_34 : decode prog_4_method_5_code 34 = .ok (.istore 6, 2) := by decide +kernel
theorem d_O_listSteps_36 : decode prog_4_method_5_code 36 = .ok (.iinc 4 (-1), 3) := by decide +kernel
theorem d_O_listSteps_39 : decode prog_4_method_5_code 39 = .ok (.iload 6, 2) := by decide +kernel
theorem d_O_listSteps_41 : decode prog_4_method_5_code 41 = .ok (.iload 6, 2) := by decide +kernel
theorem d_O_listSteps_43 : decode prog_4_method_5_code 43 = .ok (.iconst 1, 1) := by decide +kernel
theorem d_O_listSteps_44 : decode prog_4_method_5_code 44 = .ok (.isub, 1) := by decide +kernel
theorem d_O_listSteps_45 : decode prog_4_method_5_code 45 = .ok (.iand, 1) := by decide +kernel
theorem d_O_listSteps_46 : decode prog_4_method_5_code 46 = .ok (.ifCond .eq 52, 3) := by decide +kernel
theorem d_O_listSteps_49 : decode prog_4_method_5_code 49 = .ok (.iinc 3 (-1), 3) := by decide +kernel
theorem d_O_listSteps_52 : decode prog_4_method_5_code 52 = .ok (.aload_n 0, 1) := by decide +kernel
theorem d_O_listSteps_53 : decode prog_4_method_5_code 53 = .ok (.getfield 21, 3) := by decide +kernel
theorem d_O_listSteps_56 : decode prog_4_method_5_code 56 = .ok (.iload_n 3, 1) := by decide +kernel
theorem d_O_listSteps_57 : decode prog_4_method_5_code 57 = .ok (.iload 6, 2) := by decide +kernel
theorem d_O_listSteps_59 : decode prog_4_method_5_code 59 = .ok (.iastore, 1) := by decide +kernel
theorem d_O_listSteps_60 : decode prog_4_method_5_code 60 = .ok (.aload_n 0, 1) := by decide +kernel
theorem d_O_listSteps_61 : decode prog_4_method_5_code 61 = .ok (.getfield 24, 3) := by decide +kernel
theorem d_O_listSteps_64 : decode prog_4_method_5_code 64 = .ok (.iload 4, 2) := by decide +kernel
theorem d_O_listSteps_66 : decode prog_4_method_5_code 66 = .ok (.iconst 1, 1) := by decide +kernel
theorem d_O_listSteps_67 : decode prog_4_method_5_code 67 = .ok (.iadd, 1) := by decide +kernel
theorem d_O_listSteps_68 : decode prog_4_method_5_code 68 = .ok (.aload_n 0, 1) := by decide +kernel
theorem d_O_listSteps_69 : decode prog_4_method_5_code 69 = .ok (.getfield 18, 3) := by decide +kernel
theorem d_O_listSteps_72 : decode prog_4_method_5_code 72 = .ok (.iload 6, 2) := by decide +kernel
theorem d_O_listSteps_74 : decode prog_4_method_5_code 74 = .ok (.iaload, 1) := by decide +kernel
theorem d_O_listSteps_75 : decode prog_4_method_5_code 75 = .ok (.iastore, 1) := by decide +kernel
theorem d_O_listSteps_76 : decode prog_4_method_5_code 76 = .ok (.aload_n 0, 1) := by decide +kernel
theorem d_O_listSteps_77 : decode prog_4_method_5_code 77 = .ok (.getfield 24, 3) := by decide +kernel
theorem d_O_listSteps_80 : decode prog_4_method_5_code 80 = .ok (.iload 4, 2) := by decide +kernel
theorem d_O_listSteps_82 : decode prog_4_method_5_code 82 = .ok (.iconst 2, 1) := by decide +kernel
theorem d_O_listSteps_83 : decode prog_4_method_5_code 83 = .ok (.iadd, 1) := by decide +kernel
theorem d_O_listSteps_84 : decode prog_4_method_5_code 84 = .ok (.iload 6, 2) := by decide +kernel
theorem d_O_listSteps_86 : decode prog_4_method_5_code 86 = .ok (.aload_n 0, 1) := by decide +kernel
theorem d_O_listSteps_87 : decode prog_4_method_5_code 87 = .ok (.getfield 18, 3) := by decide +kernel
theorem d_O_listSteps_90 : decode prog_4_method_5_code 90 = .ok (.iload 6, 2) := by decide +kernel
theorem d_O_listSteps_92 : decode prog_4_method_5_code 92 = .ok (.iaload, 1) := by decide +kernel
theorem d_O_listSteps_93 : decode prog_4_method_5_code 93 = .ok (.ixor, 1) := by decide +kernel
theorem d_O_listSteps_94 : decode prog_4_method_5_code 94 = .ok (.iastore, 1) := by decide +kernel
theorem d_O_listSteps_95 : decode prog_4_method_5_code 95 = .ok (.iinc 4 2, 3) := by decide +kernel
theorem d_O_listSteps_98 : decode prog_4_method_5_code 98 = .ok (.iinc 5 1, 3) := by decide +kernel
theorem d_O_listSteps_101 : decode prog_4_method_5_code 101 = .ok (.goto (-84), 3) := by decide +kernel
theorem d_O_listSteps_104 : decode prog_4_method_5_code 104 = .ok (.return_, 1) := by decide +kernel
theorem d_O_findMostLegs_0 : decode prog_4_method_6_code 0 = .ok (.aload_n 0, 1) := by decide +kernel
theorem d_O_findMostLegs_1 : decode prog_4_method_6_code 1 = .ok (.iconst 0, 1) := by decide +kernel
theorem d_O_findMostLegs_2 : decode prog_4_method_6_code 2 = .ok (.putfield 56, 3) := by decide +kernel
theorem d_O_findMostLegs_5 : decode prog_4_method_6_code 5 = .ok (.iconst 0, 1) := by decide +kernel
theorem d_O_findMostLegs_6 : decode prog_4_method_6_code 6 = .ok (.istore_n 2, 1) := by decide +kernel
theorem d_O_findMostLegs_7 : decode prog_4_method_6_code 7 = .ok (.iload_n 2, 1) := by decide +kernel
theorem d_O_findMostLegs_8 : decode prog_4_method_6_code 8 = .ok (.iload_n 1, 1) := by decide +kernel
theorem d_O_findMostLegs_9 : decode prog_4_method_6_code 9 = .ok (.if_icmp .ge 31, 3) := by decide +kernel
theorem d_O_findMostLegs_12 : decode prog_4_method_6_code 12 = .ok (.aload_n 0, 1) := by decide +kernel
theorem d_O_findMostLegs_13 : decode prog_4_method_6_code 13 = .ok (.aload_n 0, 1) := by decide +kernel
theorem d_O_findMostLegs_14 : decode prog_4_method_6_code 14 = .ok (.getfield 56, 3) := by decide +kernel
theorem d_O_findMostLegs_17 : decode prog_4_method_6_code 17 = .ok (.aload_n 0, 1) := by decide +kernel
theorem d_O_findMostLegs_18 : decode prog_4_method_6_code 18 = .ok (.getfield 9, 3) := by decide +kernel
theorem d_O_findMostLegs_21 : decode prog_4_method_6_code 21 = .ok (.iconst 1, 1) := by decide +kernel
theorem d_O_findMostLegs_22 : decode prog_4_method_6_code 22 = .ok (.iload_n 2, 1) := by decide +kernel
theorem d_O_findMostLegs_23 : decode prog_4_method_6_code 23 = .ok (.ishl, 1) := by decide +kernel
theorem d_O_findMostLegs_24 : decode prog_4_method_6_code 24 = .ok (.iaload, 1) := by decide +kernel
theorem d_O_findMostLegs_25 : decode prog_4_method_6_code 25 = .ok (.invokestatic 53, 3) := by decide +kernel
theorem d_O_findMostLegs_28 : decode prog_4_method_6_code 28 = .ok (.invokestatic 59, 3) := by decide +kernel
theorem d_O_findMostLegs_31 : decode prog_4_method_6_code 31 = .ok (.putfield 56, 3) := by decide +kernel
theorem d_O_findMostLegs_34 : decode prog_4_method_6_code 34 = .ok (.iinc 2 1, 3) := by decide +kernel
theorem d_O_findMostLegs_37 : decode prog_4_method_6_code 37 = .ok (.goto (-30), 3) := by decide +kernel
theorem d_O_findMostLegs_40 : decode prog_4_method_6_code 40 = .ok (.iconst 0, 1) := by decide +kernel
theorem d_O_findMostLegs_41 : decode prog_4_method_6_code 41 = .ok (.istore_n 2, 1) := by decide +kernel
theorem d_O_findMostLegs_42 : decode prog_4_method_6_code 42 = .ok (.iload_n 2, 1) := by decide +kernel
theorem d_O_findMostLegs_43 : decode prog_4_method_6_code 43 = .ok (.iload_n 1, 1) := by decide +kernel
theorem d_O_findMostLegs_44 : decode prog_4_method_6_code 44 = .ok (.iconst 1, 1) := by decide +kernel
theorem d_O_findMostLegs_45 : decode prog_4_method_6_code 45 = .ok (.isub, 1) := by decide +kernel
theorem d_O_findMostLegs_46 : decode prog_4_method_6_code 46 = .ok (.if_icmp .ge 34, 3) := by decide +kernel
theorem d_O_findMostLegs_49 : decode prog_4_method_6_code 49 = .ok (.aload_n 0, 1) := by decide +kernel
theorem d_O_findMostLegs_50 : decode prog_4_method_6_code 50 = .ok (.aload_n 0, 1) := by decide +kernel
theorem d_O_findMostLegs_51 : decode prog_4_method_6_code 51 = .ok (.getfield 56, 3) := by decide +kernel
theorem d_O_findMostLegs_54 : decode prog_4_method_6_code 54 = .ok (.aload_n 0, 1) := by decide +kernel
theorem d_O_findMostLegs_55 : decode prog_4_method_6_code 55 = .ok (.getfield 9, 3) := by decide +kernel
theorem d_O_findMostLegs_58 : decode prog_4_method_6_code 58 = .ok (.aload_n 0, 1) := by decide +kernel
theorem d_O_findMostLegs_59 : decode prog_4_method_6_code 59 = .ok (.getfield 21, 3) := by decide +kernel
theorem d_O_findMostLegs_62 : decode prog_4_method_6_code 62 = .ok (.iload_n 2, 1) := by decide +kernel
theorem d_O_findMostLegs_63 : decode prog_4_method_6_code 63 = .ok (.iaload, 1) := by decide +kernel
theorem d_O_findMostLegs_64 : decode prog_4_method_6_code 64 = .ok (.iaload, 1) := by decide +kernel
theorem d_O_findMostLegs_65 : decode prog_4_method_6_code 65 = .ok (.invokestatic 53, 3) := by decide +kernel
theorem d_O_findMostLegs_68 : decode prog_4_method_6_code 68 = .ok (.invokestatic 59, 3) := by decide +kernel
theorem d_O_findMostLegs_71 : decode prog_4_method_6_code 71 = .ok (.putfield 56, 3) := by decide +kernel
theorem d_O_findMostLegs_74 : decode prog_4_method_6_code 74 = .ok (.iinc 2 1, 3) := by decide +kernel
theorem d_O_findMostLegs_77 : decode prog_4_method_6_code 77 = .ok (.goto (-35), 3) := by decide +kernel
theorem d_O_findMostLegs_80 : decode prog_4_method_6_code 80 = .ok (.return_, 1) := by decide +kernel
theorem d_C_begin_0 : decode prog_2_method_2_code 0 = .ok (.aload_n 0, 1) := by decide +kernel
theorem d_C_begin_1 : decode prog_2_method_2_code 1 = .ok (.iload_n 3, 1) := by decide +kernel
theorem d_C_begin_2 : decode prog_2_method_2_code 2 = .ok (.putfield 34, 3) := by decide +kernel
theorem d_C_begin_5 : decode prog_2_method_2_code 5 = .ok (.aload_n 0, 1) := by decide +kernel
theorem d_C_begin_6 : decode prog_2_method_2_code 6 = .ok (.iconst 0, 1) := by decide +kernel
theorem d_C_begin_7 : decode prog_2_method_2_code 7 = .ok (.putfield 38, 3) := by decide +kernel
theorem d_C_begin_10 : decode prog_2_method_2_code 10 = .ok (.iconst 0, 1) := by decide +kernel
theorem d_C_begin_11 : decode prog_2_method_2_code 11 = .ok (.istore 4, 2) := by decide +kernel
theorem d_C_begin_13 : decode prog_2_method_2_code 13 = .ok (.iconst 0, 1) := by decide +kernel
theorem d_C_begin_14 : decode prog_2_method_2_code 14 = .ok (.istore 5, 2) := by decide +kernel
theorem d_C_begin_16 : decode prog_2_method_2_code 16 = .ok (.iload 5, 2) := by decide +kernel
theorem d_C_begin_18 : decode prog_2_method_2_code 18 = .ok (.iload_n 2, 1) := by decide +kernel
theorem d_C_begin_19 : decode prog_2_method_2_code 19 = .ok (.if_icmp .ge 46, 3) := by decide +kernel
theorem d_C_begin_22 : decode prog_2_method_2_code 22 = .ok (.aload_n 0, 1) := by decide +kernel
theorem d_C_begin_23 : decode prog_2_method_2_code 23 = .ok (.getfield 15, 3) := by decide +kernel
theorem d_C_begin_26 : decode prog_2_method_2_code 26 = .ok (.iload 5, 2) := by decide +kernel
theorem d_C_begin_28 : decode prog_2_method_2_code 28 = .ok (.aload_n 1, 1) := by decide +kernel
theorem d_C_begin_29 : decode prog_2_method_2_code 29 = .ok (.getfield 41, 3) := by decide +kernel
theorem d_C_begin_32 : decode prog_2_method_2_code 32 = .ok (.iconst 1, 1) := by decide +kernel
theorem d_C_begin_33 : decode prog_2_method_2_code 33 = .ok (.iload 5, 2) := by decide +kernel
theorem d_C_begin_35 : decode prog_2_method_2_code 35 = .ok (.ishl, 1) := by decide +kernel
theorem d_C_begin_36 : decode prog_2_method_2_code 36 = .ok (.iaload, 1) := by decide +kernel
theorem d_C_begin_37 : decode prog_2_method_2_code 37 = .ok (.iload_n 3, 1) := by decide +kernel
theorem d_C_begin_38 : decode prog_2_method_2_code 38 = .ok (.iconst (-1), 1) := by decide +kernel
theorem d_C_begin_39 : decode prog_2_method_2_code 39 = .ok (.ixor, 1) := by decide +kernel
theorem d_C_begin_40 : decode prog_2_method_2_code 40 = .ok (.iand, 1) := by decide +kernel
theorem d_C_begin_41 : decode prog_2_method_2_code 41 = .ok (.iastore, 1) := by decide +kernel
theorem d_C_begin_42 : decode prog_2_method_2_code 42 = .ok (.iload 4, 2) := by decide +kernel
theorem d_C_begin_44 : decode prog_2_method_2_code 44 = .ok (.iconst 1, 1) := by decide +kernel
theorem d_C_begin_45 : decode prog_2_method_2_code 45 = .ok (.aload_n 0, 1) := by decide +kernel
theorem d_C_begin_46 : decode prog_2_method_2_code 46 = .ok (.getfield 15, 3) := by decide +kernel
theorem d_C_begin_49 : decode prog_2_method_2_code 49 = .ok (.iload 5, 2) := by decide +kernel
theorem d_C_begin_51 : decode prog_2_method_2_code 51 = .ok (.iaload, 1) := by decide +kernel
theorem d_C_begin_52 : decode prog_2_method_2_code 52 = .ok (.invokestatic 46, 3) := by decide +kernel
theorem d_C_begin_55 : decode prog_2_method_2_code 55 = .ok (.ishl, 1) := by decide +kernel
theorem d_C_begin_56 : decode prog_2_method_2_code 56 = .ok (.iadd, 1) := by decide +kernel
theorem d_C_begin_57 : decode prog_2_method_2_code 57 = .ok (.istore 4, 2) := by decide +kernel
theorem d_C_begin_59 : decode prog_2_method_2_code 59 = .ok (.iinc 5 1, 3) := by decide +kernel
theorem d_C_begin_62 : decode prog_2_method_2_code 62 = .ok (.goto (-46), 3) := by decide +kernel
theorem d_C_begin_65 : decode prog_2_method_2_code 65 = .ok (.iconst 0, 1) := by decide +kernel
theorem d_C_begin_66 : decode prog_2_method_2_code 66 = .ok (.istore 5, 2) := by decide +kernel
theorem d_C_begin_68 : decode prog_2_method_2_code 68 = .ok (.iload 5, 2) := by decide +kernel
theorem d_C_begin_70 : decode prog_2_method_2_code 70 = .ok (.iload_n 2, 1) := by decide +kernel
theorem d_C_begin_71 : decode prog_2_method_2_code 71 = .ok (.iconst 1, 1) := by decide +kernel
theorem d_C_begin_72 : decode prog_2_method_2_code 72 = .ok (.isub, 1) := by decide +kernel
theorem d_C_begin_73 : decode prog_2_method_2_code 73 = .ok (.if_icmp .ge 35, 3) := by decide +kernel
theorem d_C_begin_76 : decode prog_2_method_2_code 76 = .ok (.iload 4, 2) := by decide +kernel
theorem d_C_begin_78 : decode prog_2_method_2_code 78 = .ok (.iconst 1, 1) := by decide +kernel
theorem d_C_begin_79 : decode prog_2_method_2_code 79 = .ok (.aload_n 1, 1) := by decide +kernel
theorem d_C_begin_80 : decode prog_2_method_2_code 80 = .ok (.getfield 41, 3) := by decide +kernel
theorem d_C_begin_83 : decode prog_2_method_2_code 83 = .ok (.aload_n 1, 1) := by decide +kernel
theorem d_C_begin_84 : decode prog_2_method_2_code 84 = .ok (.getfield 52, 3) := by decide +kernel
theorem d_C_begin_87 : decode prog_2_method_2_code 87 = .ok (.iload 5, 2) := by decide +kernel
theorem d_C_begin_89 : decode prog_2_method_2_code 89 = .ok (.iaload, 1) := by decide +kernel
theorem d_C_begin_90 : decode prog_2_method_2_code 90 = .ok (.iaload, 1) := by decide +kernel
theorem d_C_begin_91 : decode prog_2_method_2_code 91 = .ok (.iload_n 3, 1) := by decide +kernel
theorem d_C_begin_92 : decode prog_2_method_2_code 92 = .ok (.iconst (-1), 1) := by decide +kernel
theorem d_C_begin_93 : decode prog_2_method_2_code 93 = .ok (.ixor, 1) := by decide +kernel
theorem d_C_begin_94 : decode prog_2_method_2_code 94 = .ok (.iand, 1) := by decide +kernel
theorem d_C_begin_95 : decode prog_2_method_2_code 95 = .ok (.invokestatic 46, 3) := by decide +kernel
theorem d_C_begin_98 : decode prog_2_method_2_code 98 = .ok (.ishl, 1) := by decide +kernel
theorem d_C_begin_99 : decode prog_2_method_2_code 99 = .ok (.iadd, 1) := by decide +kernel
theorem d_C_begin_100 : decode prog_2_method_2_code 100 = .ok (.istore 4, 2) := by decide +kernel
theorem d_C_begin_102 : decode prog_2_method_2_code 102 = .ok (.iinc 5 1, 3) := by decide +kernel
theorem d_C_begin_105 : decode prog_2_method_2_code 105 = .ok (.goto (-37), 3) := by decide +kernel
theorem d_C_begin_108 : decode prog_2_method_2_code 108 = .ok (.aload_n 0, 1) := by decide +kernel
theorem d_C_begin_109 : decode prog_2_method_2_code 109 = .ok (.iload 4, 2) := by decide +kernel
theorem d_C_begin_111 : decode prog_2_method_2_code 111 = .ok (.invokevirtual 55, 3) := by decide +kernel
theorem d_C_begin_114 : decode prog_2_method_2_code 114 = .ok (.return_, 1) := by decide +kernel
theorem d_C_makeRoom_0 : decode prog_2_method_3_code 0 = .ok (.iload_n 1, 1) := by decide +kernel
theorem d_C_makeRoom_1 : decode prog_2_method_3_code 1 = .ok (.aload_n 0, 1) := by decide +kernel
theorem d_C_makeRoom_2 : decode prog_2_method_3_code 2 = .ok (.getfield 27, 3) := by decide +kernel
theorem d_C_makeRoom_5 : decode prog_2_method_3_code 5 = .ok (.arraylength, 1) := by decide +kernel
theorem d_C_makeRoom_6 : decode prog_2_method_3_code 6 = .ok (.if_icmp .le 30, 3) := by decide +kernel
theorem d_C_makeRoom_9 : decode prog_2_method_3_code 9 = .ok (.iload_n 1, 1) := by decide +kernel
theorem d_C_makeRoom_10 : decode prog_2_method_3_code 10 = .ok (.iconst 2, 1) := by decide +kernel
theorem d_C_makeRoom_11 : decode prog_2_method_3_code 11 = .ok (.aload_n 0, 1) := by decide +kernel
theorem d_C_makeRoom_12 : decode prog_2_method_3_code 12 = .ok (.getfield 27, 3) := by decide +kernel
theorem d_C_makeRoom_15 : decode prog_2_method_3_code 15 = .ok (.arraylength, 1) := by decide +kernel
theorem d_C_makeRoom_16 : decode prog_2_method_3_code 16 = .ok (.imul, 1) := by decide +kernel
theorem d_C_makeRoom_17 : decode prog_2_method_3_code 17 = .ok (.invokestatic 59, 3) := by decide +kernel
theorem d_C_makeRoom_20 : decode prog_2_method_3_code 20 = .ok (.istore_n 2, 1) := by decide +kernel
theorem d_C_makeRoom_21 : decode prog_2_method_3_code 21 = .ok (.aload_n 0, 1) := by decide +kernel
theorem d_C_makeRoom_22 : decode prog_2_method_3_code 22 = .ok (.iload_n 2, 1) := by decide +kernel
theorem d_C_makeRoom_23 : decode prog_2_method_3_code 23 = .ok (.newarray .long, 2) := by decide +kernel
theorem d_C_makeRoom_25 : decode prog_2_method_3_code 25 = .ok (.putfield 27, 3) := by decide +kernel
theorem d_C_makeRoom_28 : decode prog_2_method_3_code 28 = .ok (.aload_n 0, 1) := by decide +kernel
theorem d_C_makeRoom_29 : decode prog_2_method_3_code 29 = .ok (.iload_n 2, 1) := by decide +kernel
theorem d_C_makeRoom_30 : decode prog_2_method_3_code 30 = .ok (.newarray .long, 2) := by decide +kernel
theorem d_C_makeRoom_32 : decode prog_2_method_3_code 32 = .ok (.putfield 31, 3) := by decide +kernel
theorem d_C_makeRoom_35 : decode prog_2_method_3_code 35 = .ok (.return_, 1) := by decide +kernel
theorem d_C_makeRoom_36 : decode prog_2_method_3_code 36 = .ok (.iconst 0, 1) := by decide +kernel
theorem d_C_makeRoom_37 : decode prog_2_method_3_code 37 = .ok (.istore_n 2, 1) := by decide +kernel
theorem d_C_makeRoom_38 : decode prog_2_method_3_code 38 = .ok (.iload_n 2, 1) := by decide +kernel
theorem d_C_makeRoom_39 : decode prog_2_method_3_code 39 = .ok (.iload_n 1, 1) := by decide +kernel
theorem d_C_makeRoom_40 : decode prog_2_method_3_code 40 = .ok (.if_icmp .ge 23, 3) := by decide +kernel
theorem d_C_makeRoom_43 : decode prog_2_method_3_code 43 = .ok (.aload_n 0, 1) := by decide +kernel
theorem d_C_makeRoom_44 : decode prog_2_method_3_code 44 = .ok (.getfield 27, 3) := by decide +kernel
theorem d_C_makeRoom_47 : decode prog_2_method_3_code 47 = .ok (.iload_n 2, 1) := by decide +kernel
theorem d_C_makeRoom_48 : decode prog_2_method_3_code 48 = .ok (.lconst 0, 1) := by decide +kernel
theorem d_C_makeRoom_49 : decode prog_2_method_3_code 49 = .ok (.lastore, 1) := by decide +kernel
theorem d_C_makeRoom_50 : decode prog_2_method_3_code 50 = .ok (.aload_n 0, 1) := by decide +kernel
theorem d_C_makeRoom_51 : decode prog_2_method_3_code 51 = .ok (.getfield 31, 3) := by decide +kernel
theorem d_C_makeRoom_54 : decode prog_2_method_3_code 54 = .ok (.iload_n 2, 1) := by decide +kernel
theorem d_C_makeRoom_55 : decode prog_2_method_3_code 55 = .ok (.lconst 0, 1) := by decide +kernel
theorem d_C_makeRoom_56 : decode prog_2_method_3_code 56 = .ok (.lastore, 1) := by decide +kernel
theorem d_C_makeRoom_57 : decode prog_2_method_3_code 57 = .ok (.iinc 2 1, 3) := by decide +kernel
theorem d_C_makeRoom_60 : decode prog_2_method_3_code 60 = .ok (.goto (-22), 3) := by decide +kernel
theorem d_C_makeRoom_63 : decode prog_2_method_3_code 63 = .ok (.return_, 1) := by decide +kernel
theorem d_C_load_0 : decode prog_2_method_5_code 0 = .ok (.aload_n 0, 1) := by decide +kernel
theorem d_C_load_1 : decode prog_2_method_5_code 1 = .ok (.getfield 9, 3) := by decide +kernel
theorem d_C_load_4 : decode prog_2_method_5_code 4 = .ok (.iload_n 1, 1) := by decide +kernel
theorem d_C_load_5 : decode prog_2_method_5_code 5 = .ok (.aload_n 0, 1) := by decide +kernel
theorem d_C_load_6 : decode prog_2_method_5_code 6 = .ok (.aload_n 0, 1) := by decide +kernel
theorem d_C_load_7 : decode prog_2_method_5_code 7 = .ok (.getfield 15, 3) := by decide +kernel
theorem d_C_load_10 : decode prog_2_method_5_code 10 = .ok (.iload_n 1, 1) := by decide +kernel
theorem d_C_load_11 : decode prog_2_method_5_code 11 = .ok (.iaload, 1) := by decide +kernel
theorem d_C_load_12 : decode prog_2_method_5_code 12 = .ok (.invokevirtual 65, 3) := by decide +kernel
theorem d_C_load_15 : decode prog_2_method_5_code 15 = .ok (.iastore, 1) := by decide +kernel
theorem d_C_load_16 : decode prog_2_method_5_code 16 = .ok (.iload 4, 2) := by decide +kernel
theorem d_C_load_18 : decode prog_2_method_5_code 18 = .ok (.iconst (-1), 1) := by decide +kernel
theorem d_C_load_19 : decode prog_2_method_5_code 19 = .ok (.if_icmp .eq 15, 3) := by decide +kernel
theorem d_C_load_22 : decode prog_2_method_5_code 22 = .ok (.aload_n 0, 1) := by decide +kernel
theorem d_C_load_23 : decode prog_2_method_5_code 23 = .ok (.iload_n 1, 1) := by decide +kernel
theorem d_C_load_24 : decode prog_2_method_5_code 24 = .ok (.aload_n 2, 1) := by decide +kernel
theorem d_C_load_25 : decode prog_2_method_5_code 25 = .ok (.iload_n 3, 1) := by decide +kernel
theorem d_C_load_26 : decode prog_2_method_5_code 26 = .ok (.iload 4, 2) := by decide +kernel
theorem d_C_load_28 : decode prog_2_method_5_code 28 = .ok (.iconst 1, 1) := by decide +kernel
theorem d_C_load_29 : decode prog_2_method_5_code 29 = .ok (.iconst 0, 1) := by decide +kernel
theorem d_C_load_30 : decode prog_2_method_5_code 30 = .ok (.invokevirtual 68, 3) := by decide +kernel
theorem d_C_load_33 : decode prog_2_method_5_code 33 = .ok (.return_, 1) := by decide +kernel
theorem d_C_load_34 : decode prog_2_method_5_code 34 = .ok (.iconst 0, 1) := by decide +kernel
theorem d_C_load_35 : decode prog_2_method_5_code 35 = .ok (.istore 5, 2) := by decide +kernel
theorem d_C_load_37 : decode prog_2_method_5_code 37 = .ok (.iload 5, 2) := by decide +kernel
theorem d_C_load_39 : decode prog_2_method_5_code 39 = .ok (.iconst 1, 1) := by decide +kernel
theorem d_C_load_40 : decode prog_2_method_5_code 40 = .ok (.aload_n 2, 1) := by decide +kernel
theorem d_C_load_41 : decode prog_2_method_5_code 41 = .ok (.getfield 72, 3) := by decide +kernel
theorem d_C_load_44 : decode prog_2_method_5_code 44 = .ok (.ishl, 1) := by decide +kernel
theorem d_C_load_45 : decode prog_2_method_5_code 45 = .ok (.if_icmp .ge 32, 3) := by decide +kernel
theorem d_C_load_48 : decode prog_2_method_5_code 48 = .ok (.aload_n 0, 1) := by decide +kernel
theorem d_C_load_49 : decode prog_2_method_5_code 49 = .ok (.iload_n 1, 1) := by decide +kernel
theorem d_C_load_50 : decode prog_2_method_5_code 50 = .ok (.aload_n 2, 1) := by decide +kernel
theorem d_C_load_51 : decode prog_2_method_5_code 51 = .ok (.iload_n 3, 1) := by decide +kernel
theorem d_C_load_52 : decode prog_2_method_5_code 52 = .ok (.iload 5, 2) := by decide +kernel
theorem d_C_load_54 : decode prog_2_method_5_code 54 = .ok (.aload_n 2, 1) := by decide +kernel
theorem d_C_load_55 : decode prog_2_method_5_code 55 = .ok (.getfield 77, 3) := by decide +kernel
theorem d_C_load_58 : decode prog_2_method_5_code 58 = .ok (.iload 5, 2) := by decide +kernel
theorem d_C_load_60 : decode prog_2_method_5_code 60 = .ok (.iaload, 1) := by decide +kernel
theorem d_C_load_61 : decode prog_2_method_5_code 61 = .ok (.aload_n 2, 1) := by decide +kernel
theorem d_C_load_62 : decode prog_2_method_5_code 62 = .ok (.getfield 79, 3) := by decide +kernel
theorem d_C_load_65 : decode prog_2_method_5_code 65 = .ok (.iload 5, 2) := by decide +kernel
theorem d_C_load_67 : decode prog_2_method_5_code 67 = .ok (.iaload, 1) := by decide +kernel
theorem d_C_load_68 : decode prog_2_method_5_code 68 = .ok (.invokevirtual 68, 3) := by decide +kernel
theorem d_C_load_71 : decode prog_2_method_5_code 71 = .ok (.iinc 5 1, 3) := by decide +kernel
theorem d_C_load_74 : decode prog_2_method_5_code 74 = .ok (.goto (-37), 3) := by decide +kernel
theorem d_C_load_77 : decode prog_2_method_5_code 77 = .ok (.return_, 1) := by decide +kernel
theorem d_C_take_0 : decode prog_2_method_4_code 0 = .ok (.aload_n 0, 1) := by decide +kernel
theorem d_C_take_1 : decode prog_2_method_4_code 1 = .ok (.getfield 38, 3) := by decide +kernel
theorem d_C_take_4 : decode prog_2_method_4_code 4 = .ok (.istore_n 2, 1) := by decide +kernel
theorem d_C_take_5 : decode prog_2_method_4_code 5 = .ok (.aload_n 0, 1) := by decide +kernel
theorem d_C_take_6 : decode prog_2_method_4_code 6 = .ok (.dup, 1) := by decide +kernel
theorem d_C_take_7 : decode prog_2_method_4_code 7 = .ok (.getfield 38, 3) := by decide +kernel
theorem d_C_take_10 : decode prog_2_method_4_code 10 = .ok (.iconst 1, 1) := by decide +kernel
theorem d_C_take_11 : decode prog_2_method_4_code 11 = .ok (.iload_n 1, 1) := by decide +kernel
theorem d_C_take_12 : decode prog_2_method_4_code 12 = .ok (.invokestatic 46, 3) := by decide +kernel
theorem d_C_take_15 : decode prog_2_method_4_code 15 = .ok (.ishl, 1) := by decide +kernel
theorem d_C_take_16 : decode prog_2_method_4_code 16 = .ok (.iadd, 1) := by decide +kernel
theorem d_C_take_17 : decode prog_2_method_4_code 17 = .ok (.putfield 38, 3) := by decide +kernel
theorem d_C_take_20 : decode prog_2_method_4_code 20 = .ok (.iload_n 2, 1) := by decide +kernel
theorem d_C_take_21 : decode prog_2_method_4_code 21 = .ok (.ireturn, 1) := by decide +kernel
theorem d_C_add_0 : decode prog_2_method_6_code 0 = .ok (.aload_n 2, 1) := by decide +kernel
theorem d_C_add_1 : decode prog_2_method_6_code 1 = .ok (.iload 4, 2) := by decide +kernel
theorem d_C_add_3 : decode prog_2_method_6_code 3 = .ok (.iconst 1, 1) := by decide +kernel
theorem d_C_add_4 : decode prog_2_method_6_code 4 = .ok (.invokevirtual 81, 3) := by decide +kernel
theorem d_C_add_7 : decode prog_2_method_6_code 7 = .ok (.istore 7, 2) := by decide +kernel
theorem d_C_add_9 : decode prog_2_method_6_code 9 = .ok (.aload_n 2, 1) := by decide +kernel
theorem d_C_add_10 : decode prog_2_method_6_code 10 = .ok (.iload 4, 2) := by decide +kernel
theorem d_C_add_12 : decode prog_2_method_6_code 12 = .ok (.iconst 0, 1) := by decide +kernel
theorem d_C_add_13 : decode prog_2_method_6_code 13 = .ok (.invokevirtual 81, 3) := by decide +kernel
theorem d_C_add_16 : decode prog_2_method_6_code 16 = .ok (.istore 8, 2) := by decide +kernel
theorem d_C_add_18 : decode prog_2_method_6_code 18 = .ok (.iload 7, 2) := by decide +kernel
theorem d_C_add_20 : decode prog_2_method_6_code 20 = .ok (.iload 8, 2) := by decide +kernel
theorem d_C_add_22 : decode prog_2_method_6_code 22 = .ok (.iand, 1) := by decide +kernel
theorem d_C_add_23 : decode prog_2_method_6_code 23 = .ok (.ifCond .ne 66, 3) := by decide +kernel
theorem d_C_add_26 : decode prog_2_method_6_code 26 = .ok (.iload 7, 2) := by decide +kernel
theorem d_C_add_28 : decode prog_2_method_6_code 28 = .ok (.aload_n 0, 1) := by decide +kernel
theorem d_C_add_29 : decode prog_2_method_6_code 29 = .ok (.getfield 34, 3) := by decide +kernel
theorem d_C_add_32 : decode prog_2_method_6_code 32 = .ok (.iand, 1) := by decide +kernel
theorem d_C_add_33 : decode prog_2_method_6_code 33 = .ok (.iload_n 3, 1) := by decide +kernel
theorem d_C_add_34 : decode prog_2_method_6_code 34 = .ok (.iload 7, 2) := by decide +kernel
theorem d_C_add_36 : decode prog_2_method_6_code 36 = .ok (.iload 8, 2) := by decide +kernel
theorem d_C_add_38 : decode prog_2_method_6_code 38 = .ok (.ior, 1) := by decide +kernel
theorem d_C_add_39 : decode prog_2_method_6_code 39 = .ok (.iand, 1) := by decide +kernel
theorem d_C_add_40 : decode prog_2_method_6_code 40 = .ok (.if_icmp .ne 49, 3) := by decide +kernel
theorem d_C_add_43 : decode prog_2_method_6_code 43 = .ok (.aload_n 0, 1) := by decide +kernel
theorem d_C_add_44 : decode prog_2_method_6_code 44 = .ok (.getfield 9, 3) := by decide +kernel
theorem d_C_add_47 : decode prog_2_method_6_code 47 = .ok (.iload_n 1, 1) := by decide +kernel
theorem d_C_add_48 : decode prog_2_method_6_code 48 = .ok (.iaload, 1) := by decide +kernel
theorem d_C_add_49 : decode prog_2_method_6_code 49 = .ok (.iload 7, 2) := by decide +kernel
theorem d_C_add_51 : decode prog_2_method_6_code 51 = .ok (.aload_n 0, 1) := by decide +kernel
theorem d_C_add_52 : decode prog_2_method_6_code 52 = .ok (.getfield 15, 3) := by decide +kernel
theorem d_C_add_55 : decode prog_2_method_6_code 55 = .ok (.iload_n 1, 1) := by decide +kernel
theorem d_C_add_56 : decode prog_2_method_6_code 56 = .ok (.iaload, 1) := by decide +kernel
theorem d_C_add_57 : decode prog_2_method_6_code 57 = .ok (.invokestatic 84, 3) := by decide +kernel
theorem d_C_add_60 : decode prog_2_method_6_code 60 = .ok (.iadd, 1) := by decide +kernel
theorem d_C_add_61 : decode prog_2_method_6_code 61 = .ok (.istore 9, 2) := by decide +kernel
theorem d_C_add_63 : decode prog_2_method_6_code 63 = .ok (.aload_n 0, 1) := by decide +kernel
theorem d_C_add_64 : decode prog_2_method_6_code 64 = .ok (.getfield 27, 3) := by decide +kernel
theorem d_C_add_67 : decode prog_2_method_6_code 67 = .ok (.iload 9, 2) := by decide +kernel
theorem d_C_add_69 : decode prog_2_method_6_code 69 = .ok (.dup2, 1) := by decide +kernel
theorem d_C_add_70 : decode prog_2_method_6_code 70 = .ok (.laload, 1) := by decide +kernel
theorem d_C_add_71 : decode prog_2_method_6_code 71 = .ok (.iload 5, 2) := by decide +kernel
theorem d_C_add_73 : decode prog_2_method_6_code 73 = .ok (.i2l, 1) := by decide +kernel
theorem d_C_add_74 : decode prog_2_method_6_code 74 = .ok (.ladd, 1) := by decide +kernel
theorem d_C_add_75 : decode prog_2_method_6_code 75 = .ok (.lastore, 1) := by decide +kernel
theorem d_C_add_76 : decode prog_2_method_6_code 76 = .ok (.aload_n 0, 1) := by decide +kernel
theorem d_C_add_77 : decode prog_2_method_6_code 77 = .ok (.getfield 31, 3) := by decide +kernel
theorem d_C_add_80 : decode prog_2_method_6_code 80 = .ok (.iload 9, 2) := by decide +kernel
theorem d_C_add_82 : decode prog_2_method_6_code 82 = .ok (.dup2, 1) := by decide +kernel
theorem d_C_add_83 : decode prog_2_method_6_code 83 = .ok (.laload, 1) := by decide +kernel
theorem d_C_add_84 : decode prog_2_method_6_code 84 = .ok (.iload 6, 2) := by decide +kernel
theorem d_C_add_86 : decode prog_2_method_6_code 86 = .ok (.i2l, 1) := by decide +kernel
theorem d_C_add_87 : decode prog_2_method_6_code 87 = .ok (.ladd, 1) := by decide +kernel
theorem d_C_add_88 : decode prog_2_method_6_code 88 = .ok (.lastore, 1) := by decide +kernel
theorem d_C_add_89 : decode prog_2_method_6_code 89 = .ok (.return_, 1) := by decide +kernel
theorem d_T_namesWithBit_0 : decode prog_5_method_4_code 0 = .ok (.iconst 0, 1) := by decide +kernel
theorem d_T_namesWithBit_1 : decode prog_5_method_4_code 1 = .ok (.istore_n 3, 1) := by decide +kernel
theorem d_T_namesWithBit_2 : decode prog_5_method_4_code 2 = .ok (.iconst 0, 1) := by decide +kernel
theorem d_T_namesWithBit_3 : decode prog_5_method_4_code 3 = .ok (.istore 4, 2) := by decide +kernel
theorem d_T_namesWithBit_5 : decode prog_5_method_4_code 5 = .ok (.iload 4, 2) := by decide +kernel
theorem d_T_namesWithBit_7 : decode prog_5_method_4_code 7 = .ok (.aload_n 0, 1) := by decide +kernel
theorem d_T_namesWithBit_8 : decode prog_5_method_4_code 8 = .ok (.getfield 21, 3) := by decide +kernel
theorem d_T_namesWithBit_11 : decode prog_5_method_4_code 11 = .ok (.if_icmp .ge 42, 3) := by decide +kernel
theorem d_T_namesWithBit_14 : decode prog_5_method_4_code 14 = .ok (.iload_n 1, 1) := by decide +kernel
theorem d_T_namesWithBit_15 : decode prog_5_method_4_code 15 = .ok (.iload 4, 2) := by decide +kernel
theorem d_T_namesWithBit_17 : decode prog_5_method_4_code 17 = .ok (.ishr, 1) := by decide +kernel
theorem d_T_namesWithBit_18 : decode prog_5_method_4_code 18 = .ok (.iconst 1, 1) := by decide +kernel
theorem d_T_namesWithBit_19 : decode prog_5_method_4_code 19 = .ok (.iand, 1) := by decide +kernel
theorem d_T_namesWithBit_20 : decode prog_5_method_4_code 20 = .ok (.iload_n 2, 1) := by decide +kernel
theorem d_T_namesWithBit_21 : decode prog_5_method_4_code 21 = .ok (.if_icmp .ne 26, 3) := by decide +kernel
theorem d_T_namesWithBit_24 : decode prog_5_method_4_code 24 = .ok (.aload_n 0, 1) := by decide +kernel
theorem d_T_namesWithBit_25 : decode prog_5_method_4_code 25 = .ok (.getfield 9, 3) := by decide +kernel
theorem d_T_namesWithBit_28 : decode prog_5_method_4_code 28 = .ok (.iload 4, 2) := by decide +kernel
theorem d_T_namesWithBit_30 : decode prog_5_method_4_code 30 = .ok (.iaload, 1) := by decide +kernel
theorem d_T_namesWithBit_31 : decode prog_5_method_4_code 31 = .ok (.iconst (-1), 1) := by decide +kernel
theorem d_T_namesWithBit_32 : decode prog_5_method_4_code 32 = .ok (.if_icmp .eq 15, 3) := by decide +kernel
theorem d_T_namesWithBit_35 : decode prog_5_method_4_code 35 = .ok (.iload_n 3, 1) := by decide +kernel
theorem d_T_namesWithBit_36 : decode prog_5_method_4_code 36 = .ok (.iconst 1, 1) := by decide +kernel
theorem d_T_namesWithBit_37 : decode prog_5_method_4_code 37 = .ok (.aload_n 0, 1) := by decide +kernel
theorem d_T_namesWithBit_38 : decode prog_5_method_4_code 38 = .ok (.getfield 9, 3) := by decide +kernel
theorem d_T_namesWithBit_41 : decode prog_5_method_4_code 41 = .ok (.iload 4, 2) := by decide +kernel
theorem d_T_namesWithBit_43 : decode prog_5_method_4_code 43 = .ok (.iaload, 1) := by decide +kernel
theorem d_T_namesWithBit_44 : decode prog_5_method_4_code 44 = .ok (.ishl, 1) := by decide +kernel
theorem d_T_namesWithBit_45 : decode prog_5_method_4_code 45 = .ok (.ior, 1) := by decide +kernel
theorem d_T_namesWithBit_46 : decode prog_5_method_4_code 46 = .ok (.istore_n 3, 1) := by decide +kernel
theorem d_T_namesWithBit_47 : decode prog_5_method_4_code 47 = .ok (.iinc 4 1, 3) := by decide +kernel
theorem d_T_namesWithBit_50 : decode prog_5_method_4_code 50 = .ok (.goto (-45), 3) := by decide +kernel
theorem d_T_namesWithBit_53 : decode prog_5_method_4_code 53 = .ok (.iload_n 3, 1) := by decide +kernel
theorem d_T_namesWithBit_54 : decode prog_5_method_4_code 54 = .ok (.ireturn, 1) := by decide +kernel
theorem d_C_joinAll_0 : decode prog_2_method_7_code 0 = .ok (.iconst 0, 1) := by decide +kernel
theorem d_C_joinAll_1 : decode prog_2_method_7_code 1 = .ok (.istore_n 3, 1) := by decide +kernel
theorem d_C_joinAll_2 : decode prog_2_method_7_code 2 = .ok (.iload_n 3, 1) := by decide +kernel
theorem d_C_joinAll_3 : decode prog_2_method_7_code 3 = .ok (.iload_n 2, 1) := by decide +kernel
theorem d_C_joinAll_4 : decode prog_2_method_7_code 4 = .ok (.iconst 1, 1) := by decide +kernel
theorem d_C_joinAll_5 : decode prog_2_method_7_code 5 = .ok (.isub, 1) := by decide +kernel
theorem d_C_joinAll_6 : decode prog_2_method_7_code 6 = .ok (.if_icmp .ge 43, 3) := by decide +kernel
theorem d_C_joinAll_9 : decode prog_2_method_7_code 9 = .ok (.aload_n 1, 1) := by decide +kernel
theorem d_C_joinAll_10 : decode prog_2_method_7_code 10 = .ok (.getfield 52, 3) := by decide +kernel
theorem d_C_joinAll_13 : decode prog_2_method_7_code 13 = .ok (.iload_n 3, 1) := by decide +kernel
theorem d_C_joinAll_14 : decode prog_2_method_7_code 14 = .ok (.iaload, 1) := by decide +kernel
theorem d_C_joinAll_15 : decode prog_2_method_7_code 15 = .ok (.istore 4, 2) := by decide +kernel
theorem d_C_joinAll_17 : decode prog_2_method_7_code 17 = .ok (.aload_n 1, 1) := by decide +kernel
theorem d_C_joinAll_18 : decode prog_2_method_7_code 18 = .ok (.getfield 87, 3) := by decide +kernel
theorem d_C_joinAll_21 : decode prog_2_method_7_code 21 = .ok (.iload 4, 2) := by decide +kernel
theorem d_C_joinAll_23 : decode prog_2_method_7_code 23 = .ok (.iaload, 1) := by decide +kernel
theorem d_C_joinAll_24 : decode prog_2_method_7_code 24 = .ok (.istore 5, 2) := by decide +kernel
theorem d_C_joinAll_26 : decode prog_2_method_7_code 26 = .ok (.aload_n 0, 1) := by decide +kernel
theorem d_C_joinAll_27 : decode prog_2_method_7_code 27 = .ok (.iload 5, 2) := by decide +kernel
theorem d_C_joinAll_29 : decode prog_2_method_7_code 29 = .ok (.invokestatic 90, 3) := by decide +kernel
theorem d_C_joinAll_32 : decode prog_2_method_7_code 32 = .ok (.iload 4, 2) := by decide +kernel
theorem d_C_joinAll_34 : decode prog_2_method_7_code 34 = .ok (.iload 5, 2) := by decide +kernel
theorem d_C_joinAll_36 : decode prog_2_method_7_code 36 = .ok (.ixor, 1) := by decide +kernel
theorem d_C_joinAll_37 : decode prog_2_method_7_code 37 = .ok (.invokestatic 90, 3) := by decide +kernel
theorem d_C_joinAll_40 : decode prog_2_method_7_code 40 = .ok (.invokevirtual 93, 3) := by decide +kernel
theorem d_C_joinAll_43 : decode prog_2_method_7_code 43 = .ok (.iinc 3 1, 3) := by decide +kernel
theorem d_C_joinAll_46 : decode prog_2_method_7_code 46 = .ok (.goto (-44), 3) := by decide +kernel
theorem d_C_joinAll_49 : decode prog_2_method_7_code 49 = .ok (.return_, 1) := by decide +kernel
theorem d_C_joinTwo_0 : decode prog_2_method_8_code 0 = .ok (.aload_n 0, 1) := by decide +kernel
theorem d_C_joinTwo_1 : decode prog_2_method_8_code 1 = .ok (.getfield 15, 3) := by decide +kernel
theorem d_C_joinTwo_4 : decode prog_2_method_8_code 4 = .ok (.iload_n 1, 1) := by decide +kernel
theorem d_C_joinTwo_5 : decode prog_2_method_8_code 5 = .ok (.iaload, 1) := by decide +kernel
theorem d_C_joinTwo_6 : decode prog_2_method_8_code 6 = .ok (.aload_n 0, 1) := by decide +kernel
theorem d_C_joinTwo_7 : decode prog_2_method_8_code 7 = .ok (.getfield 15, 3) := by decide +kernel
theorem d_C_joinTwo_10 : decode prog_2_method_8_code 10 = .ok (.iload_n 2, 1) := by decide +kernel
theorem d_C_joinTwo_11 : decode prog_2_method_8_code 11 = .ok (.iaload, 1) := by decide +kernel
theorem d_C_joinTwo_12 : decode prog_2_method_8_code 12 = .ok (.ior, 1) := by decide +kernel
theorem d_C_joinTwo_13 : decode prog_2_method_8_code 13 = .ok (.istore_n 3, 1) := by decide +kernel
theorem d_C_joinTwo_14 : decode prog_2_method_8_code 14 = .ok (.aload_n 0, 1) := by decide +kernel
theorem d_C_joinTwo_15 : decode prog_2_method_8_code 15 = .ok (.getfield 15, 3) := by decide +kernel
theorem d_C_joinTwo_18 : decode prog_2_method_8_code 18 = .ok (.iload_n 1, 1) := by decide +kernel
theorem d_C_joinTwo_19 : decode prog_2_method_8_code 19 = .ok (.iaload, 1) := by decide +kernel
theorem d_C_joinTwo_20 : decode prog_2_method_8_code 20 = .ok (.aload_n 0, 1) := by decide +kernel
theorem d_C_joinTwo_21 : decode prog_2_method_8_code 21 = .ok (.getfield 15, 3) := by decide +kernel
theorem d_C_joinTwo_24 : decode prog_2_method_8_code 24 = .ok (.iload_n 2, 1) := by decide +kernel
theorem d_C_joinTwo_25 : decode prog_2_method_8_code 25 = .ok (.iaload, 1) := by decide +kernel
theorem d_C_joinTwo_26 : decode prog_2_method_8_code 26 = .ok (.ixor, 1) := by decide +kernel
theorem d_C_joinTwo_27 : decode prog_2_method_8_code 27 = .ok (.istore 4, 2) := by decide +kernel
theorem d_C_joinTwo_29 : decode prog_2_method_8_code 29 = .ok (.aload_n 0, 1) := by decide +kernel
theorem d_C_joinTwo_30 : decode prog_2_method_8_code 30 = .ok (.iload 4, 2) := by decide +kernel
theorem d_C_joinTwo_32 : decode prog_2_method_8_code 32 = .ok (.invokevirtual 65, 3) := by decide +kernel
theorem d_C_joinTwo_35 : decode prog_2_method_8_code 35 = .ok (.istore 5, 2) := by decide +kernel
theorem d_C_joinTwo_37 : decode prog_2_method_8_code 37 = .ok (.aload_n 0, 1) := by decide +kernel
theorem d_C_joinTwo_38 : decode prog_2_method_8_code 38 = .ok (.getfield 18, 3) := by decide +kernel
theorem d_C_joinTwo_41 : decode prog_2_method_8_code 41 = .ok (.iload_n 3, 1) := by decide +kernel
theorem d_C_joinTwo_42 : decode prog_2_method_8_code 42 = .ok (.aload_n 0, 1) := by decide +kernel
theorem d_C_joinTwo_43 : decode prog_2_method_8_code 43 = .ok (.getfield 15, 3) := by decide +kernel
theorem d_C_joinTwo_46 : decode prog_2_method_8_code 46 = .ok (.iload_n 1, 1) := by decide +kernel
theorem d_C_joinTwo_47 : decode prog_2_method_8_code 47 = .ok (.iaload, 1) := by decide +kernel
theorem d_C_joinTwo_48 : decode prog_2_method_8_code 48 = .ok (.invokestatic 97, 3) := by decide +kernel
theorem d_C_joinTwo_51 : decode prog_2_method_8_code 51 = .ok (.aload_n 0, 1) := by decide +kernel
theorem d_C_joinTwo_52 : decode prog_2_method_8_code 52 = .ok (.getfield 21, 3) := by decide +kernel
theorem d_C_joinTwo_55 : decode prog_2_method_8_code 55 = .ok (.iload_n 3, 1) := by decide +kernel
theorem d_C_joinTwo_56 : decode prog_2_method_8_code 56 = .ok (.aload_n 0, 1) := by decide +kernel
theorem d_C_joinTwo_57 : decode prog_2_method_8_code 57 = .ok (.getfield 15, 3) := by decide +kernel
theorem d_C_joinTwo_60 : decode prog_2_method_8_code 60 = .ok (.iload_n 2, 1) := by decide +kernel
theorem d_C_joinTwo_61 : decode prog_2_method_8_code 61 = .ok (.iaload, 1) := by decide +kernel
theorem d_C_joinTwo_62 : decode prog_2_method_8_code 62 = .ok (.invokestatic 97, 3) := by decide +kernel
theorem d_C_joinTwo_65 : decode prog_2_method_8_code 65 = .ok (.aload_n 0, 1) := by decide +kernel
theorem d_C_joinTwo_66 : decode prog_2_method_8_code 66 = .ok (.getfield 24, 3) := by decide +kernel
theorem d_C_joinTwo_69 : decode prog_2_method_8_code 69 = .ok (.iload_n 3, 1) := by decide +kernel
theorem d_C_joinTwo_70 : decode prog_2_method_8_code 70 = .ok (.iload 4, 2) := by decide +kernel
theorem d_C_joinTwo_72 : decode prog_2_method_8_code 72 = .ok (.invokestatic 97, 3) := by decide +kernel
theorem d_C_joinTwo_75 : decode prog_2_method_8_code 75 = .ok (.aload_n 0, 1) := by decide +kernel
theorem d_C_joinTwo_76 : decode prog_2_method_8_code 76 = .ok (.getfield 9, 3) := by decide +kernel
theorem d_C_joinTwo_79 : decode prog_2_method_8_code 79 = .ok (.iload_n 1, 1) := by decide +kernel
theorem d_C_joinTwo_80 : decode prog_2_method_8_code 80 = .ok (.iaload, 1) := by decide +kernel
theorem d_C_joinTwo_81 : decode prog_2_method_8_code 81 = .ok (.istore 6, 2) := by decide +kernel
theorem d_C_joinTwo_83 : decode prog_2_method_8_code 83 = .ok (.aload_n 0, 1) := by decide +kernel
theorem d_C_joinTwo_84 : decode prog_2_method_8_code 84 = .ok (.getfield 9, 3) := by decide +kernel
theorem d_C_joinTwo_87 : decode prog_2_method_8_code 87 = .ok (.iload_n 2, 1) := by decide +kernel
theorem d_C_joinTwo_88 : decode prog_2_method_8_code 88 = .ok (.iaload, 1) := by decide +kernel
theorem d_C_joinTwo_89 : decode prog_2_method_8_code 89 = .ok (.istore 7, 2) := by decide +kernel
theorem d_C_joinTwo_91 : decode prog_2_method_8_code 91 = .ok (.iload 5, 2) := by decide +kernel
theorem d_C_joinTwo_93 : decode prog_2_method_8_code 93 = .ok (.istore 8, 2) := by decide +kernel
theorem d_C_joinTwo_95 : decode prog_2_method_8_code 95 = .ok (.iconst 1, 1) := by decide +kernel
theorem d_C_joinTwo_96 : decode prog_2_method_8_code 96 = .ok (.iload_n 3, 1) := by decide +kernel
theorem d_C_joinTwo_97 : decode prog_2_method_8_code 97 = .ok (.invokestatic 46, 3) := by decide +kernel
theorem d_C_joinTwo_100 : decode prog_2_method_8_code 100 = .ok (.ishl, 1) := by decide +kernel
theorem d_C_joinTwo_101 : decode prog_2_method_8_code 101 = .ok (.istore 9, 2) := by decide +kernel
theorem d_C_joinTwo_103 : decode prog_2_method_8_code 103 = .ok (.iconst 1, 1) := by decide +kernel
theorem d_C_joinTwo_104 : decode prog_2_method_8_code 104 = .ok (.istore 10, 2) := by decide +kernel
theorem d_C_joinTwo_106 : decode prog_2_method_8_code 106 = .ok (.iload 10, 2) := by decide +kernel
theorem d_C_joinTwo_108 : decode prog_2_method_8_code 108 = .ok (.iload 9, 2) := by decide +kernel
theorem d_C_joinTwo_110 : decode prog_2_method_8_code 110 = .ok (.if_icmp .gt 134, 3) := by decide +kernel
theorem d_C_joinTwo_113 : decode prog_2_method_8_code 113 = .ok (.aload_n 0, 1) := by decide +kernel
theorem d_C_joinTwo_114 : decode prog_2_method_8_code 114 = .ok (.getfield 27, 3) := by decide +kernel
theorem d_C_joinTwo_117 : decode prog_2_method_8_code 117 = .ok (.iload 8, 2) := by decide +kernel
theorem d_C_joinTwo_119 : decode prog_2_method_8_code 119 = .ok (.dup2, 1) := by decide +kernel
theorem d_C_joinTwo_120 : decode prog_2_method_8_code 120 = .ok (.laload, 1) := by decide +kernel
theorem d_C_joinTwo_121 : decode prog_2_method_8_code 121 = .ok (.aload_n 0, 1) := by decide +kernel
theorem d_C_joinTwo_122 : decode prog_2_method_8_code 122 = .ok (.getfield 27, 3) := by decide +kernel
theorem d_C_joinTwo_125 : decode prog_2_method_8_code 125 = .ok (.iload 6, 2) := by decide +kernel
theorem d_C_joinTwo_127 : decode prog_2_method_8_code 127 = .ok (.laload, 1) := by decide +kernel
theorem d_C_joinTwo_128 : decode prog_2_method_8_code 128 = .ok (.aload_n 0, 1) := by decide +kernel
theorem d_C_joinTwo_129 : decode prog_2_method_8_code 129 = .ok (.getfield 27, 3) := by decide +kernel
theorem d_C_joinTwo_132 : decode prog_2_method_8_code 132 = .ok (.iload 7, 2) := by decide +kernel
theorem d_C_joinTwo_134 : decode prog_2_method_8_code 134 = .ok (.laload, 1) := by decide +kernel
theorem d_C_joinTwo_135 : decode prog_2_method_8_code 135 = .ok (.lmul, 1) := by decide +kernel
theorem d_C_joinTwo_136 : decode prog_2_method_8_code 136 = .ok (.aload_n 0, 1) := by decide +kernel
theorem d_C_joinTwo_137 : decode prog_2_method_8_code 137 = .ok (.getfield 31, 3) := by decide +kernel
theorem d_C_joinTwo_140 : decode prog_2_method_8_code 140 = .ok (.iload 6, 2) := by decide +kernel
theorem d_C_joinTwo_142 : decode prog_2_method_8_code 142 = .ok (.laload, 1) := by decide +kernel
theorem d_C_joinTwo_143 : decode prog_2_method_8_code 143 = .ok (.aload_n 0, 1) := by decide +kernel
theorem d_C_joinTwo_144 : decode prog_2_method_8_code 144 = .ok (.getfield 31, 3) := by decide +kernel
theorem d_C_joinTwo_147 : decode prog_2_method_8_code 147 = .ok (.iload 7, 2) := by decide +kernel
theorem d_C_joinTwo_149 : decode prog_2_method_8_code 149 = .ok (.laload, 1) := by decide +kernel
theorem d_C_joinTwo_150 : decode prog_2_method_8_code 150 = .ok (.lmul, 1) := by decide +kernel
theorem d_C_joinTwo_151 : decode prog_2_method_8_code 151 = .ok (.lsub, 1) := by decide +kernel
theorem d_C_joinTwo_152 : decode prog_2_method_8_code 152 = .ok (.ladd, 1) := by decide +kernel
theorem d_C_joinTwo_153 : decode prog_2_method_8_code 153 = .ok (.lastore, 1) := by decide +kernel
theorem d_C_joinTwo_154 : decode prog_2_method_8_code 154 = .ok (.aload_n 0, 1) := by decide +kernel
theorem d_C_joinTwo_155 : decode prog_2_method_8_code 155 = .ok (.getfield 31, 3) := by decide +kernel
theorem d_C_joinTwo_158 : decode prog_2_method_8_code 158 = .ok (.iload 8, 2) := by decide +kernel
theorem d_C_joinTwo_160 : decode prog_2_method_8_code 160 = .ok (.dup2, 1) := by decide +kernel
theorem d_C_joinTwo_161 : decode prog_2_method_8_code 161 = .ok (.laload, 1) := by decide +kernel
theorem d_C_joinTwo_162 : decode prog_2_method_8_code 162 = .ok (.aload_n 0, 1) := by decide +kernel
theorem d_C_joinTwo_163 : decode prog_2_method_8_code 163 = .ok (.getfield 27, 3) := by decide +kernel
theorem d_C_joinTwo_166 : decode prog_2_method_8_code 166 = .ok (.iload 6, 2) := by decide +kernel
theorem d_C_joinTwo_168 : decode prog_2_method_8_code 168 = .ok (.laload, 1) := by decide +kernel
theorem d_C_joinTwo_169 : decode prog_2_method_8_code 169 = .ok (.aload_n 0, 1) := by decide +kernel
theorem d_C_joinTwo_170 : decode prog_2_method_8_code 170 = .ok (.getfield 31, 3) := by decide +kernel
theorem d_C_joinTwo_173 : decode prog_2_method_8_code 173 = .ok (.iload 7, 2) := by decide +kernel
theorem d_C_joinTwo_175 : decode prog_2_method_8_code 175 = .ok (.laload, 1) := by decide +kernel
theorem d_C_joinTwo_176 : decode prog_2_method_8_code 176 = .ok (.lmul, 1) := by decide +kernel
theorem d_C_joinTwo_177 : decode prog_2_method_8_code 177 = .ok (.aload_n 0, 1) := by decide +kernel
theorem d_C_joinTwo_178 : decode prog_2_method_8_code 178 = .ok (.getfield 31, 3) := by decide +kernel
theorem d_C_joinTwo_181 : decode prog_2_method_8_code 181 = .ok (.iload 6, 2) := by decide +kernel
theorem d_C_joinTwo_183 : decode prog_2_method_8_code 183 = .ok (.laload, 1) := by decide +kernel
theorem d_C_joinTwo_184 : decode prog_2_method_8_code 184 = .ok (.aload_n 0, 1) := by decide +kernel
theorem d_C_joinTwo_185 : decode prog_2_method_8_code 185 = .ok (.getfield 27, 3) := by decide +kernel
theorem d_C_joinTwo_188 : decode prog_2_method_8_code 188 = .ok (.iload 7, 2) := by decide +kernel
theorem d_C_joinTwo_190 : decode prog_2_method_8_code 190 = .ok (.laload, 1) := by decide +kernel
theorem d_C_joinTwo_191 : decode prog_2_method_8_code 191 = .ok (.lmul, 1) := by decide +kernel
theorem d_C_joinTwo_192 : decode prog_2_method_8_code 192 = .ok (.ladd, 1) := by decide +kernel
theorem d_C_joinTwo_193 : decode prog_2_method_8_code 193 = .ok (.ladd, 1) := by decide +kernel
theorem d_C_joinTwo_194 : decode prog_2_method_8_code 194 = .ok (.lastore, 1) := by decide +kernel
theorem d_C_joinTwo_195 : decode prog_2_method_8_code 195 = .ok (.iload 10, 2) := by decide +kernel
theorem d_C_joinTwo_197 : decode prog_2_method_8_code 197 = .ok (.invokestatic 90, 3) := by decide +kernel
theorem d_C_joinTwo_200 : decode prog_2_method_8_code 200 = .ok (.istore 11, 2) := by decide +kernel
theorem d_C_joinTwo_202 : decode prog_2_method_8_code 202 = .ok (.iload 6, 2) := by decide +kernel
theorem d_C_joinTwo_204 : decode prog_2_method_8_code 204 = .ok (.aload_n 0, 1) := by decide +kernel
theorem d_C_joinTwo_205 : decode prog_2_method_8_code 205 = .ok (.getfield 18, 3) := by decide +kernel
theorem d_C_joinTwo_208 : decode prog_2_method_8_code 208 = .ok (.iload 11, 2) := by decide +kernel
theorem d_C_joinTwo_210 : decode prog_2_method_8_code 210 = .ok (.iaload, 1) := by decide +kernel
theorem d_C_joinTwo_211 : decode prog_2_method_8_code 211 = .ok (.iadd, 1) := by decide +kernel
theorem d_C_joinTwo_212 : decode prog_2_method_8_code 212 = .ok (.istore 6, 2) := by decide +kernel
theorem d_C_joinTwo_214 : decode prog_2_method_8_code 214 = .ok (.iload 7, 2) := by decide +kernel
theorem d_C_joinTwo_216 : decode prog_2_method_8_code 216 = .ok (.aload_n 0, 1) := by decide +kernel
theorem d_C_joinTwo_217 : decode prog_2_method_8_code 217 = .ok (.getfield 21, 3) := by decide +kernel
theorem d_C_joinTwo_220 : decode prog_2_method_8_code 220 = .ok (.iload 11, 2) := by decide +kernel
theorem d_C_joinTwo_222 : decode prog_2_method_8_code 222 = .ok (.iaload, 1) := by decide +kernel
theorem d_C_joinTwo_223 : decode prog_2_method_8_code 223 = .ok (.iadd, 1) := by decide +kernel
theorem d_C_joinTwo_224 : decode prog_2_method_8_code 224 = .ok (.istore 7, 2) := by decide +kernel
theorem d_C_joinTwo_226 : decode prog_2_method_8_code 226 = .ok (.iload 8, 2) := by decide +kernel
theorem d_C_joinTwo_228 : decode prog_2_method_8_code 228 = .ok (.aload_n 0, 1) := by decide +kernel
theorem d_C_joinTwo_229 : decode prog_2_method_8_code 229 = .ok (.getfield 24, 3) := by decide +kernel
theorem d_C_joinTwo_232 : decode prog_2_method_8_code 232 = .ok (.iload 11, 2) := by decide +kernel
theorem d_C_joinTwo_234 : decode prog_2_method_8_code 234 = .ok (.iaload, 1) := by decide +kernel
theorem d_C_joinTwo_235 : decode prog_2_method_8_code 235 = .ok (.iadd, 1) := by decide +kernel
theorem d_C_joinTwo_236 : decode prog_2_method_8_code 236 = .ok (.istore 8, 2) := by decide +kernel
theorem d_C_joinTwo_238 : decode prog_2_method_8_code 238 = .ok (.iinc 10 1, 3) := by decide +kernel
theorem d_C_joinTwo_241 : decode prog_2_method_8_code 241 = .ok (.goto (-135), 3) := by decide +kernel
theorem d_C_joinTwo_244 : decode prog_2_method_8_code 244 = .ok (.aload_n 0, 1) := by decide +kernel
theorem d_C_joinTwo_245 : decode prog_2_method_8_code 245 = .ok (.getfield 9, 3) := by decide +kernel
theorem d_C_joinTwo_248 : decode prog_2_method_8_code 248 = .ok (.iload_n 1, 1) := by decide +kernel
theorem d_C_joinTwo_249 : decode prog_2_method_8_code 249 = .ok (.iload 5, 2) := by decide +kernel
theorem d_C_joinTwo_251 : decode prog_2_method_8_code 251 = .ok (.iastore, 1) := by decide +kernel
theorem d_C_joinTwo_252 : decode prog_2_method_8_code 252 = .ok (.aload_n 0, 1) := by decide +kernel
theorem d_C_joinTwo_253 : decode prog_2_method_8_code 253 = .ok (.getfield 15, 3) := by decide +kernel
theorem d_C_joinTwo_256 : decode prog_2_method_8_code 256 = .ok (.iload_n 1, 1) := by decide +kernel
theorem d_C_joinTwo_257 : decode prog_2_method_8_code 257 = .ok (.iload 4, 2) := by decide +kernel
theorem d_C_joinTwo_259 : decode prog_2_method_8_code 259 = .ok (.iastore, 1) := by decide +kernel
theorem d_C_joinTwo_260 : decode prog_2_method_8_code 260 = .ok (.return_, 1) := by decide +kernel
theorem d_C_findMoves_0 : decode prog_2_method_9_code 0 = .ok (.iconst 0, 1) := by decide +kernel
theorem d_C_findMoves_1 : decode prog_2_method_9_code 1 = .ok (.istore_n 3, 1) := by decide +kernel
theorem d_C_findMoves_2 : decode prog_2_method_9_code 2 = .ok (.iconst 1, 1) := by decide +kernel
theorem d_C_findMoves_3 : decode prog_2_method_9_code 3 = .ok (.istore 4, 2) := by decide +kernel
theorem d_C_findMoves_5 : decode prog_2_method_9_code 5 = .ok (.iconst 0, 1) := by decide +kernel
theorem d_C_findMoves_6 : decode prog_2_method_9_code 6 = .ok (.istore 5, 2) := by decide +kernel
theorem d_C_findMoves_8 : decode prog_2_method_9_code 8 = .ok (.iconst 0, 1) := by decide +kernel
theorem d_C_findMoves_9 : decode prog_2_method_9_code 9 = .ok (.istore 6, 2) := by decide +kernel
theorem d_C_findMoves_11 : decode prog_2_method_9_code 11 = .ok (.iload 6, 2) := by decide +kernel
theorem d_C_findMoves_13 : decode prog_2_method_9_code 13 = .ok (.bipush 20, 2) := by decide +kernel
theorem d_C_findMoves_15 : decode prog_2_method_9_code 15 = .ok (.if_icmp .ge 60, 3) := by decide +kernel
theorem d_C_findMoves_18 : decode prog_2_method_9_code 18 = .ok (.iload 6, 2) := by decide +kernel
theorem d_C_findMoves_20 : decode prog_2_method_9_code 20 = .ok (.iload_n 1, 1) := by decide +kernel
theorem d_C_findMoves_21 : decode prog_2_method_9_code 21 = .ok (.invokestatic 101, 3) := by decide +kernel
theorem d_C_findMoves_24 : decode prog_2_method_9_code 24 = .ok (.ifCond .eq 45, 3) := by decide +kernel
theorem d_C_findMoves_27 : decode prog_2_method_9_code 27 = .ok (.iload 6, 2) := by decide +kernel
theorem d_C_findMoves_29 : decode prog_2_method_9_code 29 = .ok (.iload_n 2, 1) := by decide +kernel
theorem d_C_findMoves_30 : decode prog_2_method_9_code 30 = .ok (.invokestatic 101, 3) := by decide +kernel
theorem d_C_findMoves_33 : decode prog_2_method_9_code 33 = .ok (.ifCond .eq 8, 3) := by decide +kernel
theorem d_C_findMoves_36 : decode prog_2_method_9_code 36 = .ok (.iload 4, 2) := by decide +kernel
theorem d_C_findMoves_38 : decode prog_2_method_9_code 38 = .ok (.goto 4, 3) := by decide +kernel
theorem d_C_findMoves_41 : decode prog_2_method_9_code 41 = .ok (.iconst 0, 1) := by decide +kernel
theorem d_C_findMoves_42 : decode prog_2_method_9_code 42 = .ok (.istore 7, 2) := by decide +kernel
theorem d_C_findMoves_44 : decode prog_2_method_9_code 44 = .ok (.aload_n 0, 1) := by decide +kernel
theorem d_C_findMoves_45 : decode prog_2_method_9_code 45 = .ok (.iload_n 3, 1) := by decide +kernel
theorem d_C_findMoves_46 : decode prog_2_method_9_code 46 = .ok (.iload 7, 2) := by decide +kernel
theorem d_C_findMoves_48 : decode prog_2_method_9_code 48 = .ok (.iload 5, 2) := by decide +kernel
theorem d_C_findMoves_50 : decode prog_2_method_9_code 50 = .ok (.isub, 1) := by decide +kernel
theorem d_C_findMoves_51 : decode prog_2_method_9_code 51 = .ok (.iastore, 1) := by decide +kernel
theorem d_C_findMoves_52 : decode prog_2_method_9_code 52 = .ok (.iload 5, 2) := by decide +kernel
theorem d_C_findMoves_54 : decode prog_2_method_9_code 54 = .ok (.iload 7, 2) := by decide +kernel
theorem d_C_findMoves_56 : decode prog_2_method_9_code 56 = .ok (.iadd, 1) := by decide +kernel
theorem d_C_findMoves_57 : decode prog_2_method_9_code 57 = .ok (.istore 5, 2) := by decide +kernel
theorem d_C_findMoves_59 : decode prog_2_method_9_code 59 = .ok (.iload 4, 2) := by decide +kernel
theorem d_C_findMoves_61 : decode prog_2_method_9_code 61 = .ok (.iload 7, 2) := by decide +kernel
theorem d_C_findMoves_63 : decode prog_2_method_9_code 63 = .ok (.iadd, 1) := by decide +kernel
theorem d_C_findMoves_64 : decode prog_2_method_9_code 64 = .ok (.istore 4, 2) := by decide +kernel
theorem d_C_findMoves_66 : decode prog_2_method_9_code 66 = .ok (.iinc 3 1, 3) := by decide +kernel
theorem d_C_findMoves_69 : decode prog_2_method_9_code 69 = .ok (.iinc 6 1, 3) := by decide +kernel
theorem d_C_findMoves_72 : decode prog_2_method_9_code 72 = .ok (.goto (-61), 3) := by decide +kernel
theorem d_C_findMoves_75 : decode prog_2_method_9_code 75 = .ok (.aload_n 0, 1) := by decide +kernel
theorem d_C_findMoves_76 : decode prog_2_method_9_code 76 = .ok (.iload_n 3, 1) := by decide +kernel
theorem d_C_findMoves_77 : decode prog_2_method_9_code 77 = .ok (.iload 5, 2) := by decide +kernel
theorem d_C_findMoves_79 : decode prog_2_method_9_code 79 = .ok (.ineg, 1) := by decide +kernel
theorem d_C_findMoves_80 : decode prog_2_method_9_code 80 = .ok (.iastore, 1) := by decide +kernel
theorem d_C_findMoves_81 : decode prog_2_method_9_code 81 = .ok (.return_, 1) := by decide +kernel
theorem d_C_resultReal_0 : decode prog_2_method_10_code 0 = .ok (.aload_n 0, 1) := by decide +kernel
theorem d_C_resultReal_1 : decode prog_2_method_10_code 1 = .ok (.getfield 27, 3) := by decide +kernel
theorem d_C_resultReal_4 : decode prog_2_method_10_code 4 = .ok (.aload_n 0, 1) := by decide +kernel
theorem d_C_resultReal_5 : decode prog_2_method_10_code 5 = .ok (.getfield 9, 3) := by decide +kernel
theorem d_C_resultReal_8 : decode prog_2_method_10_code 8 = .ok (.iconst 0, 1) := by decide +kernel
theorem d_C_resultReal_9 : decode prog_2_method_10_code 9 = .ok (.iaload, 1) := by decide +kernel
theorem d_C_resultReal_10 : decode prog_2_method_10_code 10 = .ok (.laload, 1) := by decide +kernel
theorem d_C_resultReal_11 : decode prog_2_method_10_code 11 = .ok (.lreturn, 1) := by decide +kernel
theorem d_C_resultImaginary_0 : decode prog_2_method_11_code 0 = .ok (.aload_n 0, 1) := by decide +kernel
theorem d_C_resultImaginary_1 : decode prog_2_method_11_code 1 = .ok (.getfield 31, 3) := by decide +kernel
theorem d_C_resultImaginary_4 : decode prog_2_method_11_code 4 = .ok (.aload_n 0, 1) := by decide +kernel
theorem d_C_resultImaginary_5 : decode prog_2_method_11_code 5 = .ok (.getfield 9, 3) := by decide +kernel
theorem d_C_resultImaginary_8 : decode prog_2_method_11_code 8 = .ok (.iconst 0, 1) := by decide +kernel
theorem d_C_resultImaginary_9 : decode prog_2_method_11_code 9 = .ok (.iaload, 1) := by decide +kernel
theorem d_C_resultImaginary_10 : decode prog_2_method_11_code 10 = .ok (.laload, 1) := by decide +kernel
theorem d_C_resultImaginary_11 : decode prog_2_method_11_code 11 = .ok (.lreturn, 1) := by decide +kernel
end
section
-- DECODE rows, laid by program
theorem d_K_init_0 : decode prog_7_method_1_code 0 = .ok (.aload_n 0, 1) := by decide +kernel
theorem d_K_init_1 : decode prog_7_method_1_code 1 = .ok (.invokespecial 1, 3) := by decide +kernel
theorem d_K_init_4 : decode prog_7_method_1_code 4 = .ok (.aload_n 0, 1) := by decide +kernel
theorem d_K_init_5 : decode prog_7_method_1_code 5 = .ok (.bipush 10, 2) := by decide +kernel
theorem d_K_init_7 : decode prog_7_method_1_code 7 = .ok (.newarray .int, 2) := by decide +kernel
theorem d_K_init_9 : decode prog_7_method_1_code 9 = .ok (.putfield 7, 3) := by decide +kernel
theorem d_K_init_12 : decode prog_7_method_1_code 12 = .ok (.aload_n 0, 1) := by decide +kernel
theorem d_K_init_13 : decode prog_7_method_1_code 13 = .ok (.bipush 60, 2) := by decide +kernel
theorem d_K_init_15 : decode prog_7_method_1_code 15 = .ok (.newarray .int, 2) := by decide +kernel
theorem d_K_init_17 : decode prog_7_method_1_code 17 = .ok (.putfield 13, 3) := by decide +kernel
theorem d_K_init_20 : decode prog_7_method_1_code 20 = .ok (.aload_n 0, 1) := by decide +kernel
theorem d_K_init_21 : decode prog_7_method_1_code 21 = .ok (.sipush 640, 3) := by decide +kernel
theorem d_K_init_24 : decode prog_7_method_1_code 24 = .ok (.newarray .int, 2) := by decide +kernel
theorem d_K_init_26 : decode prog_7_method_1_code 26 = .ok (.putfield 16, 3) := by decide +kernel
theorem d_K_init_29 : decode prog_7_method_1_code 29 = .ok (.aload_n 0, 1) := by decide +kernel
theorem d_K_init_30 : decode prog_7_method_1_code 30 = .ok (.sipush 640, 3) := by decide +kernel
theorem d_K_init_33 : decode prog_7_method_1_code 33 = .ok (.newarray .int, 2) := by decide +kernel
theorem d_K_init_35 : decode prog_7_method_1_code 35 = .ok (.putfield 19, 3) := by decide +kernel
theorem d_K_init_38 : decode prog_7_method_1_code 38 = .ok (.aload_n 0, 1) := by decide +kernel
theorem d_K_init_39 : decode prog_7_method_1_code 39 = .ok (.bipush 10, 2) := by decide +kernel
theorem d_K_init_41 : decode prog_7_method_1_code 41 = .ok (.newarray .int, 2) := by decide +kernel
theorem d_K_init_43 : decode prog_7_method_1_code 43 = .ok (.putfield 22, 3) := by decide +kernel
theorem d_K_init_46 : decode prog_7_method_1_code 46 = .ok (.aload_n 0, 1) := by decide +kernel
theorem d_K_init_47 : decode prog_7_method_1_code 47 = .ok (.sipush 1024, 3) := by decide +kernel
theorem d_K_init_50 : decode prog_7_method_1_code 50 = .ok (.newarray .int, 2) := by decide +kernel
theorem d_K_init_52 : decode prog_7_method_1_code 52 = .ok (.putfield 25, 3) := by decide +kernel
theorem d_K_init_55 : decode prog_7_method_1_code 55 = .ok (.aload_n 0, 1) := by decide +kernel
theorem d_K_init_56 : decode prog_7_method_1_code 56 = .ok (.sipush 1024, 3) := by decide +kernel
theorem d_K_init_59 : decode prog_7_method_1_code 59 = .ok (.newarray .int, 2) := by decide +kernel
theorem d_K_init_61 : decode prog_7_method_1_code 61 = .ok (.putfield 28, 3) := by decide +kernel
theorem d_K_init_64 : decode prog_7_method_1_code 64 = .ok (.aload_n 0, 1) := by decide +kernel
theorem d_K_init_65 : decode prog_7_method_1_code 65 = .ok (.sipush 1024, 3) := by decide +kernel
theorem d_K_init_68 : decode prog_7_method_1_code 68 = .ok (.newarray .int, 2) := by decide +kernel
theorem d_K_init_70 : decode prog_7_method_1_code 70 = .ok (.putfield 31, 3) := by decide +kernel
theorem d_K_init_73 : decode prog_7_method_1_code 73 = .ok (.aload_n 0, 1) := by decide +kernel
theorem d_K_init_74 : decode prog_7_method_1_code 74 = .ok (.bipush 10, 2) := by decide +kernel
theorem d_K_init_76 : decode prog_7_method_1_code 76 = .ok (.newarray .int, 2) := by decide +kernel
theorem d_K_init_78 : decode prog_7_method_1_code 78 = .ok (.putfield 34, 3) := by decide +kernel
theorem d_K_init_81 : decode prog_7_method_1_code 81 = .ok (.aload_n 0, 1) := by decide +kernel
theorem d_K_init_82 : decode prog_7_method_1_code 82 = .ok (.bipush 20, 2) := by decide +kernel
theorem d_K_init_84 : decode prog_7_method_1_code 84 = .ok (.newarray .int, 2) := by decide +kernel
theorem d_K_init_86 : decode prog_7_method_1_code 86 = .ok (.putfield 37, 3) := by decide +kernel
theorem d_K_init_89 : decode prog_7_method_1_code 89 = .ok (.aload_n 0, 1) := by decide +kernel
theorem d_K_init_90 : decode prog_7_method_1_code 90 = .ok (.bipush 20, 2) := by decide +kernel
theorem d_K_init_92 : decode prog_7_method_1_code 92 = .ok (.newarray .int, 2) := by decide +kernel
theorem d_K_init_94 : decode prog_7_method_1_code 94 = .ok (.putfield 40, 3) := by decide +kernel
theorem d_K_init_97 : decode prog_7_method_1_code 97 = .ok (.aload_n 0, 1) := by decide +kernel
theorem d_K_init_98 : decode prog_7_method_1_code 98 = .ok (.bipush 20, 2) := by decide +kernel
theorem d_K_init_100 : decode prog_7_method_1_code 100 = .ok (.newarray .boolean, 2) := by decide +kernel
theorem d_K_init_102 : decode prog_7_method_1_code 102 = .ok (.putfield 43, 3) := by decide +kernel
theorem d_K_init_105 : decode prog_7_method_1_code 105 = .ok (.aload_n 0, 1) := by decide +kernel
theorem d_K_init_106 : decode prog_7_method_1_code 106 = .ok (.bipush 10, 2) := by decide +kernel
theorem d_K_init_108 : decode prog_7_method_1_code 108 = .ok (.newarray .int, 2) := by decide +kernel
theorem d_K_init_110 : decode prog_7_method_1_code 110 = .ok (.putfield 47, 3) := by decide +kernel
theorem d_K_init_113 : decode prog_7_method_1_code 113 = .ok (.aload_n 0, 1) := by decide +kernel
theorem d_K_init_114 : decode prog_7_method_1_code 114 = .ok (.bipush 10, 2) := by decide +kernel
theorem d_K_init_116 : decode prog_7_method_1_code 116 = .ok (.newarray .int, 2) := by decide +kernel
theorem d_K_init_118 : decode prog_7_method_1_code 118 = .ok (.putfield 50, 3) := by decide +kernel
theorem d_K_init_121 : decode prog_7_method_1_code 121 = .ok (.aload_n 0, 1) := by decide +kernel
theorem d_K_init_122 : decode prog_7_method_1_code 122 = .ok (.bipush 20, 2) := by decide +kernel
theorem d_K_init_124 : decode prog_7_method_1_code 124 = .ok (.newarray .int, 2) := by decide +kernel
theorem d_K_init_126 : decode prog_7_method_1_code 126 = .ok (.putfield 53, 3) := by decide +kernel
theorem d_K_init_129 : decode prog_7_method_1_code 129 = .ok (.aload_n 0, 1) := by decide +kernel
theorem d_K_init_130 : decode prog_7_method_1_code 130 = .ok (.bipush 20, 2) := by decide +kernel
theorem d_K_init_132 : decode prog_7_method_1_code 132 = .ok (.newarray .int, 2) := by decide +kernel
theorem d_K_init_134 : decode prog_7_method_1_code 134 = .ok (.putfield 56, 3) := by decide +kernel
theorem d_K_init_137 : decode prog_7_method_1_code 137 = .ok (.aload_n 0, 1) := by decide +kernel
theorem d_K_init_138 : decode prog_7_method_1_code 138 = .ok (.bipush 10, 2) := by decide +kernel
theorem d_K_init_140 : decode prog_7_method_1_code 140 = .ok (.newarray .int, 2) := by decide +kernel
theorem d_K_init_142 : decode prog_7_method_1_code 142 = .ok (.putfield 59, 3) := by decide +kernel
theorem d_K_init_145 : decode prog_7_method_1_code 145 = .ok (.aload_n 0, 1) := by decide +kernel
theorem d_K_init_146 : decode prog_7_method_1_code 146 = .ok (.bipush 21, 2) := by decide +kernel
theorem d_K_init_148 : decode prog_7_method_1_code 148 = .ok (.newarray .long, 2) := by decide +kernel
theorem d_K_init_150 : decode prog_7_method_1_code 150 = .ok (.putfield 62, 3) := by decide +kernel
theorem d_K_init_153 : decode prog_7_method_1_code 153 = .ok (.aload_n 0, 1) := by decide +kernel
theorem d_K_init_154 : decode prog_7_method_1_code 154 = .ok (.bipush 21, 2) := by decide +kernel
theorem d_K_init_156 : decode prog_7_method_1_code 156 = .ok (.newarray .long, 2) := by decide +kernel
theorem d_K_init_158 : decode prog_7_method_1_code 158 = .ok (.putfield 66, 3) := by decide +kernel
theorem d_K_init_161 : decode prog_7_method_1_code 161 = .ok (.return_, 1) := by decide +kernel
theorem d_K_thrown_0 : decode prog_7_method_2_code 0 = .ok (.aload_n 0, 1) := by decide +kernel
theorem d_K_thrown_1 : decode prog_7_method_2_code 1 = .ok (.getfield 69, 3) := by decide +kernel
theorem d_K_thrown_4 : decode prog_7_method_2_code 4 = .ok (.ireturn, 1) := by decide +kernel
theorem d_K_tensor_0 : decode prog_7_method_6_code 0 = .ok (.aload_n 0, 1) := by decide +kernel
theorem d_K_tensor_1 : decode prog_7_method_6_code 1 = .ok (.iconst 0, 1) := by decide +kernel
theorem d_K_tensor_2 : decode prog_7_method_6_code 2 = .ok (.putfield 69, 3) := by decide +kernel
theorem d_K_tensor_5 : decode prog_7_method_6_code 5 = .ok (.iload_n 1, 1) := by decide +kernel
theorem d_K_tensor_6 : decode prog_7_method_6_code 6 = .ok (.ifCond .lt 18, 3) := by decide +kernel
theorem d_K_tensor_9 : decode prog_7_method_6_code 9 = .ok (.iload_n 1, 1) := by decide +kernel
theorem d_K_tensor_10 : decode prog_7_method_6_code 10 = .ok (.bipush 6, 2) := by decide +kernel
theorem d_K_tensor_12 : decode prog_7_method_6_code 12 = .ok (.if_icmp .gt 12, 3) := by decide +kernel
theorem d_K_tensor_15 : decode prog_7_method_6_code 15 = .ok (.aload_n 0, 1) := by decide +kernel
theorem d_K_tensor_16 : decode prog_7_method_6_code 16 = .ok (.getfield 73, 3) := by decide +kernel
theorem d_K_tensor_19 : decode prog_7_method_6_code 19 = .ok (.bipush 10, 2) := by decide +kernel
theorem d_K_tensor_21 : decode prog_7_method_6_code 21 = .ok (.if_icmp .ne 5, 3) := by decide +kernel
theorem d_K_tensor_24 : decode prog_7_method_6_code 24 = .ok (.iconst (-1), 1) := by decide +kernel
theorem d_K_tensor_25 : decode prog_7_method_6_code 25 = .ok (.ireturn, 1) := by decide +kernel
theorem d_K_tensor_26 : decode prog_7_method_6_code 26 = .ok (.aload_n 0, 1) := by decide +kernel
theorem d_K_tensor_27 : decode prog_7_method_6_code 27 = .ok (.getfield 7, 3) := by decide +kernel
theorem d_K_tensor_30 : decode prog_7_method_6_code 30 = .ok (.aload_n 0, 1) := by decide +kernel
theorem d_K_tensor_31 : decode prog_7_method_6_code 31 = .ok (.getfield 73, 3) := by decide +kernel
theorem d_K_tensor_34 : decode prog_7_method_6_code 34 = .ok (.iload_n 1, 1) := by decide +kernel
theorem d_K_tensor_35 : decode prog_7_method_6_code 35 = .ok (.iastore, 1) := by decide +kernel
theorem d_K_tensor_36 : decode prog_7_method_6_code 36 = .ok (.iconst 0, 1) := by decide +kernel
theorem d_K_tensor_37 : decode prog_7_method_6_code 37 = .ok (.istore_n 2, 1) := by decide +kernel
theorem d_K_tensor_38 : decode prog_7_method_6_code 38 = .ok (.iload_n 2, 1) := by decide +kernel
theorem d_K_tensor_39 : decode prog_7_method_6_code 39 = .ok (.bipush 6, 2) := by decide +kernel
theorem d_K_tensor_41 : decode prog_7_method_6_code 41 = .ok (.if_icmp .ge 24, 3) := by decide +kernel
theorem d_K_tensor_44 : decode prog_7_method_6_code 44 = .ok (.aload_n 0, 1) := by decide +kernel
theorem d_K_tensor_45 : decode prog_7_method_6_code 45 = .ok (.getfield 13, 3) := by decide +kernel
theorem d_K_tensor_48 : decode prog_7_method_6_code 48 = .ok (.bipush 6, 2) := by decide +kernel
theorem d_K_tensor_50 : decode prog_7_method_6_code 50 = .ok (.aload_n 0, 1) := by decide +kernel
theorem d_K_tensor_51 : decode prog_7_method_6_code 51 = .ok (.getfield 73, 3) := by decide +kernel
theorem d_K_tensor_54 : decode prog_7_method_6_code 54 = .ok (.imul, 1) := by decide +kernel
theorem d_K_tensor_55 : decode prog_7_method_6_code 55 = .ok (.iload_n 2, 1) := by decide +kernel
theorem d_K_tensor_56 : decode prog_7_method_6_code 56 = .ok (.iadd, 1) := by decide +kernel
theorem d_K_tensor_57 : decode prog_7_method_6_code 57 = .ok (.iconst (-1), 1) := by decide +kernel
theorem d_K_tensor_58 : decode prog_7_method_6_code 58 = .ok (.iastore, 1) := by decide +kernel
theorem d_K_tensor_59 : decode prog_7_method_6_code 59 = .ok (.iinc 2 1, 3) := by decide +kernel
theorem d_K_tensor_62 : decode prog_7_method_6_code 62 = .ok (.goto (-24), 3) := by decide +kernel
theorem d_K_tensor_65 : decode prog_7_method_6_code 65 = .ok (.iconst 0, 1) := by decide +kernel
theorem d_K_tensor_66 : decode prog_7_method_6_code 66 = .ok (.istore_n 2, 1) := by decide +kernel
theorem d_K_tensor_67 : decode prog_7_method_6_code 67 = .ok (.iload_n 2, 1) := by decide +kernel
theorem d_K_tensor_68 : decode prog_7_method_6_code 68 = .ok (.bipush 64, 2) := by decide +kernel
theorem d_K_tensor_70 : decode prog_7_method_6_code 70 = .ok (.if_icmp .ge 39, 3) := by decide +kernel
theorem d_K_tensor_73 : decode prog_7_method_6_code 73 = .ok (.aload_n 0, 1) := by decide +kernel
theorem d_K_tensor_74 : decode prog_7_method_6_code 74 = .ok (.getfield 16, 3) := by decide +kernel
theorem d_K_tensor_77 : decode prog_7_method_6_code 77 = .ok (.bipush 64, 2) := by decide +kernel
theorem d_K_tensor_79 : decode prog_7_method_6_code 79 = .ok (.aload_n 0, 1) := by decide +kernel
theorem d_K_tensor_80 : decode prog_7_method_6_code 80 = .ok (.getfield 73, 3) := by decide +kernel
theorem d_K_tensor_83 : decode prog_7_method_6_code 83 = .ok (.imul, 1) := by decide +kernel
theorem d_K_tensor_84 : decode prog_7_method_6_code 84 = .ok (.iload_n 2, 1) := by decide +kernel
theorem d_K_tensor_85 : decode prog_7_method_6_code 85 = .ok (.iadd, 1) := by decide +kernel
theorem d_K_tensor_86 : decode prog_7_method_6_code 86 = .ok (.iconst 0, 1) := by decide +kernel
theorem d_K_tensor_87 : decode prog_7_method_6_code 87 = .ok (.iastore, 1) := by decide +kernel
theorem d_K_tensor_88 : decode prog_7_method_6_code 88 = .ok (.aload_n 0, 1) := by decide +kernel
theorem d_K_tensor_89 : decode prog_7_method_6_code 89 = .ok (.getfield 19, 3) := by decide +kernel
theorem d_K_tensor_92 : decode prog_7_method_6_code 92 = .ok (.bipush 64, 2) := by decide +kernel
theorem d_K_tensor_94 : decode prog_7_method_6_code 94 = .ok (.aload_n 0, 1) := by decide +kernel
theorem d_K_tensor_95 : decode prog_7_method_6_code 95 = .ok (.getfield 73, 3) := by decide +kernel
theorem d_K_tensor_98 : decode prog_7_method_6_code 98 = .ok (.imul, 1) := by decide +kernel
theorem d_K_tensor_99 : decode prog_7_method_6_code 99 = .ok (.iload_n 2, 1) := by decide +kernel
theorem d_K_tensor_100 : decode prog_7_method_6_code 100 = .ok (.iadd, 1) := by decide +kernel
theorem d_K_tensor_101 : decode prog_7_method_6_code 101 = .ok (.iconst 0, 1) := by decide +kernel
theorem d_K_tensor_102 : decode prog_7_method_6_code 102 = .ok (.iastore, 1) := by decide +kernel
theorem d_K_tensor_103 : decode prog_7_method_6_code 103 = .ok (.iinc 2 1, 3) := by decide +kernel
theorem d_K_tensor_106 : decode prog_7_method_6_code 106 = .ok (.goto (-39), 3) := by decide +kernel
theorem d_K_tensor_109 : decode prog_7_method_6_code 109 = .ok (.aload_n 0, 1) := by decide +kernel
theorem d_K_tensor_110 : decode prog_7_method_6_code 110 = .ok (.dup, 1) := by decide +kernel
theorem d_K_tensor_111 : decode prog_7_method_6_code 111 = .ok (.getfield 73, 3) := by decide +kernel
theorem d_K_tensor_114 : decode prog_7_method_6_code 114 = .ok (.iconst 1, 1) := by decide +kernel
theorem d_K_tensor_115 : decode prog_7_method_6_code 115 = .ok (.iadd, 1) := by decide +kernel
theorem d_K_tensor_116 : decode prog_7_method_6_code 116 = .ok (.putfield 73, 3) := by decide +kernel
theorem d_K_tensor_119 : decode prog_7_method_6_code 119 = .ok (.aload_n 0, 1) := by decide +kernel
theorem d_K_tensor_120 : decode prog_7_method_6_code 120 = .ok (.getfield 73, 3) := by decide +kernel
theorem d_K_tensor_123 : decode prog_7_method_6_code 123 = .ok (.iconst 1, 1) := by decide +kernel
theorem d_K_tensor_124 : decode prog_7_method_6_code 124 = .ok (.isub, 1) := by decide +kernel
theorem d_K_tensor_125 : decode prog_7_method_6_code 125 = .ok (.ireturn, 1) := by decide +kernel
theorem d_K_leg_0 : decode prog_7_method_7_code 0 = .ok (.aload_n 0, 1) := by decide +kernel
theorem d_K_leg_1 : decode prog_7_method_7_code 1 = .ok (.iconst 0, 1) := by decide +kernel
theorem d_K_leg_2 : decode prog_7_method_7_code 2 = .ok (.putfield 69, 3) := by decide +kernel
theorem d_K_leg_5 : decode prog_7_method_7_code 5 = .ok (.aload_n 0, 1) := by decide +kernel
theorem d_K_leg_6 : decode prog_7_method_7_code 6 = .ok (.iload_n 1, 1) := by decide +kernel
theorem d_K_leg_7 : decode prog_7_method_7_code 7 = .ok (.invokevirtual 76, 3) := by decide +kernel
theorem d_K_leg_10 : decode prog_7_method_7_code 10 = .ok (.ifCond .eq 28, 3) := by decide +kernel
theorem d_K_leg_13 : decode prog_7_method_7_code 13 = .ok (.iload_n 2, 1) := by decide +kernel
theorem d_K_leg_14 : decode prog_7_method_7_code 14 = .ok (.ifCond .lt 24, 3) := by decide +kernel
theorem d_K_leg_17 : decode prog_7_method_7_code 17 = .ok (.iload_n 2, 1) := by decide +kernel
theorem d_K_leg_18 : decode prog_7_method_7_code 18 = .ok (.aload_n 0, 1) := by decide +kernel
theorem d_K_leg_19 : decode prog_7_method_7_code 19 = .ok (.getfield 7, 3) := by decide +kernel
theorem d_K_leg_22 : decode prog_7_method_7_code 22 = .ok (.iload_n 1, 1) := by decide +kernel
theorem d_K_leg_23 : decode prog_7_method_7_code 23 = .ok (.iaload, 1) := by decide +kernel
theorem d_K_leg_24 : decode prog_7_method_7_code 24 = .ok (.if_icmp .ge 14, 3) := by decide +kernel
theorem d_K_leg_27 : decode prog_7_method_7_code 27 = .ok (.iload_n 3, 1) := by decide +kernel
theorem d_K_leg_28 : decode prog_7_method_7_code 28 = .ok (.iconst (-1), 1) := by decide +kernel
theorem d_K_leg_29 : decode prog_7_method_7_code 29 = .ok (.if_icmp .lt 9, 3) := by decide +kernel
theorem d_K_leg_32 : decode prog_7_method_7_code 32 = .ok (.iload_n 3, 1) := by decide +kernel
theorem d_K_leg_33 : decode prog_7_method_7_code 33 = .ok (.bipush 20, 2) := by decide +kernel
theorem d_K_leg_35 : decode prog_7_method_7_code 35 = .ok (.if_icmp .lt 5, 3) := by decide +kernel
theorem d_K_leg_38 : decode prog_7_method_7_code 38 = .ok (.iconst 0, 1) := by decide +kernel
theorem d_K_leg_39 : decode prog_7_method_7_code 39 = .ok (.ireturn, 1) := by decide +kernel
theorem d_K_leg_40 : decode prog_7_method_7_code 40 = .ok (.iconst 0, 1) := by decide +kernel
theorem d_K_leg_41 : decode prog_7_method_7_code 41 = .ok (.istore 4, 2) := by decide +kernel
theorem d_K_leg_43 : decode prog_7_method_7_code 43 = .ok (.iconst 0, 1) := by decide +kernel
theorem d_K_leg_44 : decode prog_7_method_7_code 44 = .ok (.istore 5, 2) := by decide +kernel
theorem d_K_leg_46 : decode prog_7_method_7_code 46 = .ok (.iload 5, 2) := by decide +kernel
theorem d_K_leg_48 : decode prog_7_method_7_code 48 = .ok (.bipush 6, 2) := by decide +kernel
theorem d_K_leg_50 : decode prog_7_method_7_code 50 = .ok (.aload_n 0, 1) := by decide +kernel
theorem d_K_leg_51 : decode prog_7_method_7_code 51 = .ok (.getfield 73, 3) := by decide +kernel
theorem d_K_leg_54 : decode prog_7_method_7_code 54 = .ok (.imul, 1) := by decide +kernel
theorem d_K_leg_55 : decode prog_7_method_7_code 55 = .ok (.if_icmp .ge 46, 3) := by decide +kernel
theorem d_K_leg_58 : decode prog_7_method_7_code 58 = .ok (.iload 4, 2) := by decide +kernel
theorem d_K_leg_60 : decode prog_7_method_7_code 60 = .ok (.iload_n 3, 1) := by decide +kernel
theorem d_K_leg_61 : decode prog_7_method_7_code 61 = .ok (.iconst (-1), 1) := by decide +kernel
theorem d_K_leg_62 : decode prog_7_method_7_code 62 = .ok (.if_icmp .eq 29, 3) := by decide +kernel
theorem d_K_leg_65 : decode prog_7_method_7_code 65 = .ok (.aload_n 0, 1) := by decide +kernel
theorem d_K_leg_66 : decode prog_7_method_7_code 66 = .ok (.getfield 13, 3) := by decide +kernel
theorem d_K_leg_69 : decode prog_7_method_7_code 69 = .ok (.iload 5, 2) := by decide +kernel
theorem d_K_leg_71 : decode prog_7_method_7_code 71 = .ok (.iaload, 1) := by decide +kernel
theorem d_K_leg_72 : decode prog_7_method_7_code 72 = .ok (.iload_n 3, 1) := by decide +kernel
theorem d_K_leg_73 : decode prog_7_method_7_code 73 = .ok (.if_icmp .ne 18, 3) := by decide +kernel
theorem d_K_leg_76 : decode prog_7_method_7_code 76 = .ok (.iload 5, 2) := by decide +kernel
theorem d_K_leg_78 : decode prog_7_method_7_code 78 = .ok (.bipush 6, 2) := by decide +kernel
theorem d_K_leg_80 : decode prog_7_method_7_code 80 = .ok (.iload_n 1, 1) := by decide +kernel
theorem d_K_leg_81 : decode prog_7_method_7_code 81 = .ok (.imul, 1) := by decide +kernel
theorem d_K_leg_82 : decode prog_7_method_7_code 82 = .ok (.iload_n 2, 1) := by decide +kernel
theorem d_K_leg_83 : decode prog_7_method_7_code 83 = .ok (.iadd, 1) := by decide +kernel
theorem d_K_leg_84 : decode prog_7_method_7_code 84 = .ok (.if_icmp .eq 7, 3) := by decide +kernel
theorem d_K_leg_87 : decode prog_7_method_7_code 87 = .ok (.iconst 1, 1) := by decide +kernel
theorem d_K_leg_88 : decode prog_7_method_7_code 88 = .ok (.goto 4, 3) := by decide +kernel
theorem d_K_leg_91 : decode prog_7_method_7_code 91 = .ok (.iconst 0, 1) := by decide +kernel
theorem d_K_leg_92 : decode prog_7_method_7_code 92 = .ok (.iadd, 1) := by decide +kernel
theorem d_K_leg_93 : decode prog_7_method_7_code 93 = .ok (.istore 4, 2) := by decide +kernel
theorem d_K_leg_95 : decode prog_7_method_7_code 95 = .ok (.iinc 5 1, 3) := by decide +kernel
theorem d_K_leg_98 : decode prog_7_method_7_code 98 = .ok (.goto (-52), 3) := by decide +kernel
theorem d_K_leg_101 : decode prog_7_method_7_code 101 = .ok (.iload 4, 2) := by decide +kernel
theorem d_K_leg_103 : decode prog_7_method_7_code 103 = .ok (.iconst 2, 1) := by decide +kernel
theorem d_K_leg_104 : decode prog_7_method_7_code 104 = .ok (.if_icmp .ne 5, 3) := by decide +kernel
theorem d_K_leg_107 : decode prog_7_method_7_code 107 = .ok (.iconst 0, 1) := by decide +kernel
theorem d_K_leg_108 : decode prog_7_method_7_code 108 = .ok (.ireturn, 1) := by decide +kernel
theorem d_K_leg_109 : decode prog_7_method_7_code 109 = .ok (.aload_n 0, 1) := by decide +kernel
theorem d_K_leg_110 : decode prog_7_method_7_code 110 = .ok (.getfield 13, 3) := by decide +kernel
theorem d_K_leg_113 : decode prog_7_method_7_code 113 = .ok (.bipush 6, 2) := by decide +kernel
theorem d_K_leg_115 : decode prog_7_method_7_code 115 = .ok (.iload_n 1, 1) := by decide +kernel
theorem d_K_leg_116 : decode prog_7_method_7_code 116 = .ok (.imul, 1) := by decide +kernel
theorem d_K_leg_117 : decode prog_7_method_7_code 117 = .ok (.iload_n 2, 1) := by decide +kernel
theorem d_K_leg_118 : decode prog_7_method_7_code 118 = .ok (.iadd, 1) := by decide +kernel
theorem d_K_leg_119 : decode prog_7_method_7_code 119 = .ok (.iload_n 3, 1) := by decide +kernel
theorem d_K_leg_120 : decode prog_7_method_7_code 120 = .ok (.iastore, 1) := by decide +kernel
theorem d_K_leg_121 : decode prog_7_method_7_code 121 = .ok (.iconst 1, 1) := by decide +kernel
theorem d_K_leg_122 : decode prog_7_method_7_code 122 = .ok (.ireturn, 1) := by decide +kernel
theorem d_K_isTensor_0 : decode prog_7_method_4_code 0 = .ok (.iload_n 1, 1) := by decide +kernel
theorem d_K_isTensor_1 : decode prog_7_method_4_code 1 = .ok (.ifCond .lt 15, 3) := by decide +kernel
theorem d_K_isTensor_4 : decode prog_7_method_4_code 4 = .ok (.iload_n 1, 1) := by decide +kernel
theorem d_K_isTensor_5 : decode prog_7_method_4_code 5 = .ok (.aload_n 0, 1) := by decide +kernel
theorem d_K_isTensor_6 : decode prog_7_method_4_code 6 = .ok (.getfield 73, 3) := by decide +kernel
theorem d_K_isTensor_9 : decode prog_7_method_4_code 9 = .ok (.if_icmp .ge 7, 3) := by decide +kernel
theorem d_K_isTensor_12 : decode prog_7_method_4_code 12 = .ok (.iconst 1, 1) := by decide +kernel
theorem d_K_isTensor_13 : decode prog_7_method_4_code 13 = .ok (.goto 4, 3) := by decide +kernel
theorem d_K_isTensor_16 : decode prog_7_method_4_code 16 = .ok (.iconst 0, 1) := by decide +kernel
theorem d_K_isTensor_17 : decode prog_7_method_4_code 17 = .ok (.ireturn, 1) := by decide +kernel
theorem d_K_put_0 : decode prog_7_method_9_code 0 = .ok (.aload_n 0, 1) := by decide +kernel
theorem d_K_put_1 : decode prog_7_method_9_code 1 = .ok (.iconst 0, 1) := by decide +kernel
theorem d_K_put_2 : decode prog_7_method_9_code 2 = .ok (.putfield 69, 3) := by decide +kernel
theorem d_K_put_5 : decode prog_7_method_9_code 5 = .ok (.aload_n 0, 1) := by decide +kernel
theorem d_K_put_6 : decode prog_7_method_9_code 6 = .ok (.iload_n 1, 1) := by decide +kernel
theorem d_K_put_7 : decode prog_7_method_9_code 7 = .ok (.iload_n 2, 1) := by decide +kernel
theorem d_K_put_8 : decode prog_7_method_9_code 8 = .ok (.invokevirtual 80, 3) := by decide +kernel
theorem d_K_put_11 : decode prog_7_method_9_code 11 = .ok (.ifCond .eq 29, 3) := by decide +kernel
theorem d_K_put_14 : decode prog_7_method_9_code 14 = .ok (.iload_n 3, 1) := by decide +kernel
theorem d_K_put_15 : decode prog_7_method_9_code 15 = .ok (.bipush (-9), 2) := by decide +kernel
theorem d_K_put_17 : decode prog_7_method_9_code 17 = .ok (.if_icmp .lt 23, 3) := by decide +kernel
theorem d_K_put_20 : decode prog_7_method_9_code 20 = .ok (.iload_n 3, 1) := by decide +kernel
theorem d_K_put_21 : decode prog_7_method_9_code 21 = .ok (.bipush 9, 2) := by decide +kernel
theorem d_K_put_23 : decode prog_7_method_9_code 23 = .ok (.if_icmp .gt 17, 3) := by decide +kernel
theorem d_K_put_26 : decode prog_7_method_9_code 26 = .ok (.iload 4, 2) := by decide +kernel
theorem d_K_put_28 : decode prog_7_method_9_code 28 = .ok (.bipush (-9), 2) := by decide +kernel
theorem d_K_put_30 : decode prog_7_method_9_code 30 = .ok (.if_icmp .lt 10, 3) := by decide +kernel
theorem d_K_put_33 : decode prog_7_method_9_code 33 = .ok (.iload 4, 2) := by decide +kernel
theorem d_K_put_35 : decode prog_7_method_9_code 35 = .ok (.bipush 9, 2) := by decide +kernel
theorem d_K_put_37 : decode prog_7_method_9_code 37 = .ok (.if_icmp .le 5, 3) := by decide +kernel
theorem d_K_put_40 : decode prog_7_method_9_code 40 = .ok (.iconst 0, 1) := by decide +kernel
theorem d_K_put_41 : decode prog_7_method_9_code 41 = .ok (.ireturn, 1) := by decide +kernel
theorem d_K_put_42 : decode prog_7_method_9_code 42 = .ok (.aload_n 0, 1) := by decide +kernel
theorem d_K_put_43 : decode prog_7_method_9_code 43 = .ok (.getfield 16, 3) := by decide +kernel
theorem d_K_put_46 : decode prog_7_method_9_code 46 = .ok (.bipush 64, 2) := by decide +kernel
theorem d_K_put_48 : decode prog_7_method_9_code 48 = .ok (.iload_n 1, 1) := by decide +kernel
theorem d_K_put_49 : decode prog_7_method_9_code 49 = .ok (.imul, 1) := by decide +kernel
theorem d_K_put_50 : decode prog_7_method_9_code 50 = .ok (.iload_n 2, 1) := by decide +kernel
theorem d_K_put_51 : decode prog_7_method_9_code 51 = .ok (.iadd, 1) := by decide +kernel
theorem d_K_put_52 : decode prog_7_method_9_code 52 = .ok (.iload_n 3, 1) := by decide +kernel
theorem d_K_put_53 : decode prog_7_method_9_code 53 = .ok (.iastore, 1) := by decide +kernel
theorem d_K_put_54 : decode prog_7_method_9_code 54 = .ok (.aload_n 0, 1) := by decide +kernel
theorem d_K_put_55 : decode prog_7_method_9_code 55 = .ok (.getfield 19, 3) := by decide +kernel
theorem d_K_put_58 : decode prog_7_method_9_code 58 = .ok (.bipush 64, 2) := by decide +kernel
theorem d_K_put_60 : decode prog_7_method_9_code 60 = .ok (.iload_n 1, 1) := by decide +kernel
theorem d_K_put_61 : decode prog_7_method_9_code 61 = .ok (.imul, 1) := by decide +kernel
theorem d_K_put_62 : decode prog_7_method_9_code 62 = .ok (.iload_n 2, 1) := by decide +kernel
theorem d_K_put_63 : decode prog_7_method_9_code 63 = .ok (.iadd, 1) := by decide +kernel
theorem d_K_put_64 : decode prog_7_method_9_code 64 = .ok (.iload 4, 2) := by decide +kernel
theorem d_K_put_66 : decode prog_7_method_9_code 66 = .ok (.iastore, 1) := by decide +kernel
theorem d_K_put_67 : decode prog_7_method_9_code 67 = .ok (.iconst 1, 1) := by decide +kernel
theorem d_K_put_68 : decode prog_7_method_9_code 68 = .ok (.ireturn, 1) := by decide +kernel
theorem d_K_isIndex_0 : decode prog_7_method_8_code 0 = .ok (.aload_n 0, 1) := by decide +kernel
theorem d_K_isIndex_1 : decode prog_7_method_8_code 1 = .ok (.iload_n 1, 1) := by decide +kernel
theorem d_K_isIndex_2 : decode prog_7_method_8_code 2 = .ok (.invokevirtual 76, 3) := by decide +kernel
theorem d_K_isIndex_5 : decode prog_7_method_8_code 5 = .ok (.ifCond .eq 23, 3) := by decide +kernel
theorem d_K_isIndex_8 : decode prog_7_method_8_code 8 = .ok (.iload_n 2, 1) := by decide +kernel
theorem d_K_isIndex_9 : decode prog_7_method_8_code 9 = .ok (.ifCond .lt 19, 3) := by decide +kernel
theorem d_K_isIndex_12 : decode prog_7_method_8_code 12 = .ok (.iload_n 2, 1) := by decide +kernel
theorem d_K_isIndex_13 : decode prog_7_method_8_code 13 = .ok (.iconst 1, 1) := by decide +kernel
theorem d_K_isIndex_14 : decode prog_7_method_8_code 14 = .ok (.aload_n 0, 1) := by decide +kernel
theorem d_K_isIndex_15 : decode prog_7_method_8_code 15 = .ok (.getfield 7, 3) := by decide +kernel
theorem d_K_isIndex_18 : decode prog_7_method_8_code 18 = .ok (.iload_n 1, 1) := by decide +kernel
theorem d_K_isIndex_19 : decode prog_7_method_8_code 19 = .ok (.iaload, 1) := by decide +kernel
theorem d_K_isIndex_20 : decode prog_7_method_8_code 20 = .ok (.ishl, 1) := by decide +kernel
theorem d_K_isIndex_21 : decode prog_7_method_8_code 21 = .ok (.if_icmp .ge 7, 3) := by decide +kernel
theorem d_K_isIndex_24 : decode prog_7_method_8_code 24 = .ok (.iconst 1, 1) := by decide +kernel
theorem d_K_isIndex_25 : decode prog_7_method_8_code 25 = .ok (.goto 4, 3) := by decide +kernel
theorem d_K_isIndex_28 : decode prog_7_method_8_code 28 = .ok (.iconst 0, 1) := by decide +kernel
theorem d_K_isIndex_29 : decode prog_7_method_8_code 29 = .ok (.ireturn, 1) := by decide +kernel
theorem d_K_clear_0 : decode prog_7_method_10_code 0 = .ok (.aload_n 0, 1) := by decide +kernel
theorem d_K_clear_1 : decode prog_7_method_10_code 1 = .ok (.iconst 0, 1) := by decide +kernel
theorem d_K_clear_2 : decode prog_7_method_10_code 2 = .ok (.putfield 69, 3) := by decide +kernel
theorem d_K_clear_5 : decode prog_7_method_10_code 5 = .ok (.aload_n 0, 1) := by decide +kernel
theorem d_K_clear_6 : decode prog_7_method_10_code 6 = .ok (.iconst 0, 1) := by decide +kernel
theorem d_K_clear_7 : decode prog_7_method_10_code 7 = .ok (.putfield 73, 3) := by decide +kernel
theorem d_K_clear_10 : decode prog_7_method_10_code 10 = .ok (.return_, 1) := by decide +kernel
theorem d_K_open_0 : decode prog_7_method_12_code 0 = .ok (.aload_n 0, 1) := by decide +kernel
theorem d_K_open_1 : decode prog_7_method_12_code 1 = .ok (.iconst 0, 1) := by decide +kernel
theorem d_K_open_2 : decode prog_7_method_12_code 2 = .ok (.putfield 69, 3) := by decide +kernel
theorem d_K_open_5 : decode prog_7_method_12_code 5 = .ok (.aload_n 0, 1) := by decide +kernel
theorem d_K_open_6 : decode prog_7_method_12_code 6 = .ok (.invokevirtual 90, 3) := by decide +kernel
theorem d_K_open_9 : decode prog_7_method_12_code 9 = .ok (.ifCond .eq 10, 3) := by decide +kernel
theorem d_K_open_12 : decode prog_7_method_12_code 12 = .ok (.aload_n 0, 1) := by decide +kernel
theorem d_K_open_13 : decode prog_7_method_12_code 13 = .ok (.getfield 84, 3) := by decide +kernel
theorem d_K_open_16 : decode prog_7_method_12_code 16 = .ok (.goto 4, 3) := by decide +kernel
theorem d_K_open_19 : decode prog_7_method_12_code 19 = .ok (.iconst (-1), 1) := by decide +kernel
theorem d_K_open_20 : decode prog_7_method_12_code 20 = .ok (.ireturn, 1) := by decide +kernel
theorem d_K_isReady_0 : decode prog_7_method_11_code 0 = .ok (.iconst 0, 1) := by decide +kernel
theorem d_K_isReady_1 : decode prog_7_method_11_code 1 = .ok (.istore_n 1, 1) := by decide +kernel
theorem d_K_isReady_2 : decode prog_7_method_11_code 2 = .ok (.iconst 0, 1) := by decide +kernel
theorem d_K_isReady_3 : decode prog_7_method_11_code 3 = .ok (.istore_n 2, 1) := by decide +kernel
theorem d_K_isReady_4 : decode prog_7_method_11_code 4 = .ok (.aload_n 0, 1) := by decide +kernel
theorem d_K_isReady_5 : decode prog_7_method_11_code 5 = .ok (.getfield 73, 3) := by decide +kernel
theorem d_K_isReady_8 : decode prog_7_method_11_code 8 = .ok (.ifCond .le 7, 3) := by decide +kernel
theorem d_K_isReady_11 : decode prog_7_method_11_code 11 = .ok (.iconst 1, 1) := by decide +kernel
theorem d_K_isReady_12 : decode prog_7_method_11_code 12 = .ok (.goto 4, 3) := by decide +kernel
theorem d_K_isReady_15 : decode prog_7_method_11_code 15 = .ok (.iconst 0, 1) := by decide +kernel
theorem d_K_isReady_16 : decode prog_7_method_11_code 16 = .ok (.istore_n 3, 1) := by decide +kernel
theorem d_K_isReady_17 : decode prog_7_method_11_code 17 = .ok (.iconst 0, 1) := by decide +kernel
theorem d_K_isReady_18 : decode prog_7_method_11_code 18 = .ok (.istore 4, 2) := by decide +kernel
theorem d_K_isReady_20 : decode prog_7_method_11_code 20 = .ok (.iload 4, 2) := by decide +kernel
theorem d_K_isReady_22 : decode prog_7_method_11_code 22 = .ok (.aload_n 0, 1) := by decide +kernel
theorem d_K_isReady_23 : decode prog_7_method_11_code 23 = .ok (.getfield 73, 3) := by decide +kernel
theorem d_K_isReady_26 : decode prog_7_method_11_code 26 = .ok (.if_icmp .ge 108, 3) := by decide +kernel
theorem d_K_isReady_29 : decode prog_7_method_11_code 29 = .ok (.aload_n 0, 1) := by decide +kernel
theorem d_K_isReady_30 : decode prog_7_method_11_code 30 = .ok (.getfield 22, 3) := by decide +kernel
theorem d_K_isReady_33 : decode prog_7_method_11_code 33 = .ok (.iload 4, 2) := by decide +kernel
theorem d_K_isReady_35 : decode prog_7_method_11_code 35 = .ok (.iconst 0, 1) := by decide +kernel
theorem d_K_isReady_36 : decode prog_7_method_11_code 36 = .ok (.iastore, 1) := by decide +kernel
theorem d_K_isReady_37 : decode prog_7_method_11_code 37 = .ok (.iconst 0, 1) := by decide +kernel
theorem d_K_isReady_38 : decode prog_7_method_11_code 38 = .ok (.istore 5, 2) := by decide +kernel
theorem d_K_isReady_40 : decode prog_7_method_11_code 40 = .ok (.iload 5, 2) := by decide +kernel
theorem d_K_isReady_42 : decode prog_7_method_11_code 42 = .ok (.aload_n 0, 1) := by decide +kernel
theorem d_K_isReady_43 : decode prog_7_method_11_code 43 = .ok (.getfield 7, 3) := by decide +kernel
theorem d_K_isReady_46 : decode prog_7_method_11_code 46 = .ok (.iload 4, 2) := by decide +kernel
theorem d_K_isReady_48 : decode prog_7_method_11_code 48 = .ok (.iaload, 1) := by decide +kernel
theorem d_K_isReady_49 : decode prog_7_method_11_code 49 = .ok (.if_icmp .ge 79, 3) := by decide +kernel
theorem d_K_isReady_52 : decode prog_7_method_11_code 52 = .ok (.aload_n 0, 1) := by decide +kernel
theorem d_K_isReady_53 : decode prog_7_method_11_code 53 = .ok (.getfield 13, 3) := by decide +kernel
theorem d_K_isReady_56 : decode prog_7_method_11_code 56 = .ok (.bipush 6, 2) := by decide +kernel
theorem d_K_isReady_58 : decode prog_7_method_11_code 58 = .ok (.iload 4, 2) := by decide +kernel
theorem d_K_isReady_60 : decode prog_7_method_11_code 60 = .ok (.imul, 1) := by decide +kernel
theorem d_K_isReady_61 : decode prog_7_method_11_code 61 = .ok (.iload 5, 2) := by decide +kernel
theorem d_K_isReady_63 : decode prog_7_method_11_code 63 = .ok (.iadd, 1) := by decide +kernel
theorem d_K_isReady_64 : decode prog_7_method_11_code 64 = .ok (.iaload, 1) := by decide +kernel
theorem d_K_isReady_65 : decode prog_7_method_11_code 65 = .ok (.istore 6, 2) := by decide +kernel
theorem d_K_isReady_67 : decode prog_7_method_11_code 67 = .ok (.iload_n 3, 1) := by decide +kernel
theorem d_K_isReady_68 : decode prog_7_method_11_code 68 = .ok (.ifCond .eq 13, 3) := by decide +kernel
theorem d_K_isReady_71 : decode prog_7_method_11_code 71 = .ok (.iload 6, 2) := by decide +kernel
theorem d_K_isReady_73 : decode prog_7_method_11_code 73 = .ok (.iconst (-1), 1) := by decide +kernel
theorem d_K_isReady_74 : decode prog_7_method_11_code 74 = .ok (.if_icmp .eq 7, 3) := by decide +kernel
theorem d_K_isReady_77 : decode prog_7_method_11_code 77 = .ok (.iconst 1, 1) := by decide +kernel
theorem d_K_isReady_78 : decode prog_7_method_11_code 78 = .ok (.goto 4, 3) := by decide +kernel
theorem d_K_isReady_81 : decode prog_7_method_11_code 81 = .ok (.iconst 0, 1) := by decide +kernel
theorem d_K_isReady_82 : decode prog_7_method_11_code 82 = .ok (.istore_n 3, 1) := by decide +kernel
theorem d_K_isReady_83 : decode prog_7_method_11_code 83 = .ok (.iload 6, 2) := by decide +kernel
theorem d_K_isReady_85 : decode prog_7_method_11_code 85 = .ok (.iconst (-1), 1) := by decide +kernel
theorem d_K_isReady_86 : decode prog_7_method_11_code 86 = .ok (.if_icmp .ne 6, 3) := by decide +kernel
theorem d_K_isReady_89 : decode prog_7_method_11_code 89 = .ok (.goto 33, 3) := by decide +kernel
theorem d_K_isReady_92 : decode prog_7_method_11_code 92 = .ok (.aload_n 0, 1) := by decide +kernel
theorem d_K_isReady_93 : decode prog_7_method_11_code 93 = .ok (.getfield 22, 3) := by decide +kernel
theorem d_K_isReady_96 : decode prog_7_method_11_code 96 = .ok (.iload 4, 2) := by decide +kernel
theorem d_K_isReady_98 : decode prog_7_method_11_code 98 = .ok (.dup2, 1) := by decide +kernel
theorem d_K_isReady_99 : decode prog_7_method_11_code 99 = .ok (.iaload, 1) := by decide +kernel
theorem d_K_isReady_100 : decode prog_7_method_11_code 100 = .ok (.iconst 1, 1) := by decide +kernel
theorem d_K_isReady_101 : decode prog_7_method_11_code 101 = .ok (.iload 6, 2) := by decide +kernel
theorem d_K_isReady_103 : decode prog_7_method_11_code 103 = .ok (.ishl, 1) := by decide +kernel
theorem d_K_isReady_104 : decode prog_7_method_11_code 104 = .ok (.ixor, 1) := by decide +kernel
theorem d_K_isReady_105 : decode prog_7_method_11_code 105 = .ok (.iastore, 1) := by decide +kernel
theorem d_K_isReady_106 : decode prog_7_method_11_code 106 = .ok (.iload_n 2, 1) := by decide +kernel
theorem d_K_isReady_107 : decode prog_7_method_11_code 107 = .ok (.iload_n 1, 1) := by decide +kernel
theorem d_K_isReady_108 : decode prog_7_method_11_code 108 = .ok (.iconst 1, 1) := by decide +kernel
theorem d_K_isReady_109 : decode prog_7_method_11_code 109 = .ok (.iload 6, 2) := by decide +kernel
theorem d_K_isReady_111 : decode prog_7_method_11_code 111 = .ok (.ishl, 1) := by decide +kernel
theorem d_K_isReady_112 : decode prog_7_method_11_code 112 = .ok (.iand, 1) := by decide +kernel
theorem d_K_isReady_113 : decode prog_7_method_11_code 113 = .ok (.ior, 1) := by decide +kernel
theorem d_K_isReady_114 : decode prog_7_method_11_code 114 = .ok (.istore_n 2, 1) := by decide +kernel
theorem d_K_isReady_115 : decode prog_7_method_11_code 115 = .ok (.iload_n 1, 1) := by decide +kernel
theorem d_K_isReady_116 : decode prog_7_method_11_code 116 = .ok (.iconst 1, 1) := by decide +kernel
theorem d_K_isReady_117 : decode prog_7_method_11_code 117 = .ok (.iload 6, 2) := by decide +kernel
theorem d_K_isReady_119 : decode prog_7_method_11_code 119 = .ok (.ishl, 1) := by decide +kernel
theorem d_K_isReady_120 : decode prog_7_method_11_code 120 = .ok (.ior, 1) := by decide +kernel
theorem d_K_isReady_121 : decode prog_7_method_11_code 121 = .ok (.istore_n 1, 1) := by decide +kernel
theorem d_K_isReady_122 : decode prog_7_method_11_code 122 = .ok (.iinc 5 1, 3) := by decide +kernel
theorem d_K_isReady_125 : decode prog_7_method_11_code 125 = .ok (.goto (-85), 3) := by decide +kernel
theorem d_K_isReady_128 : decode prog_7_method_11_code 128 = .ok (.iinc 4 1, 3) := by decide +kernel
theorem d_K_isReady_131 : decode prog_7_method_11_code 131 = .ok (.goto (-111), 3) := by decide +kernel
theorem d_K_isReady_134 : decode prog_7_method_11_code 134 = .ok (.aload_n 0, 1) := by decide +kernel
theorem d_K_isReady_135 : decode prog_7_method_11_code 135 = .ok (.iload_n 1, 1) := by decide +kernel
theorem d_K_isReady_136 : decode prog_7_method_11_code 136 = .ok (.iload_n 2, 1) := by decide +kernel
theorem d_K_isReady_137 : decode prog_7_method_11_code 137 = .ok (.iconst (-1), 1) := by decide +kernel
theorem d_K_isReady_138 : decode prog_7_method_11_code 138 = .ok (.ixor, 1) := by decide +kernel
theorem d_K_isReady_139 : decode prog_7_method_11_code 139 = .ok (.iand, 1) := by decide +kernel
theorem d_K_isReady_140 : decode prog_7_method_11_code 140 = .ok (.putfield 84, 3) := by decide +kernel
theorem d_K_isReady_143 : decode prog_7_method_11_code 143 = .ok (.aload_n 0, 1) := by decide +kernel
theorem d_K_isReady_144 : decode prog_7_method_11_code 144 = .ok (.iload_n 2, 1) := by decide +kernel
theorem d_K_isReady_145 : decode prog_7_method_11_code 145 = .ok (.putfield 87, 3) := by decide +kernel
theorem d_K_isReady_148 : decode prog_7_method_11_code 148 = .ok (.iload_n 3, 1) := by decide +kernel
theorem d_K_isReady_149 : decode prog_7_method_11_code 149 = .ok (.ireturn, 1) := by decide +kernel
theorem d_K_cost_0 : decode prog_7_method_18_code 0 = .ok (.aload_n 0, 1) := by decide +kernel
theorem d_K_cost_1 : decode prog_7_method_18_code 1 = .ok (.iconst 0, 1) := by decide +kernel
theorem d_K_cost_2 : decode prog_7_method_18_code 2 = .ok (.putfield 69, 3) := by decide +kernel
theorem d_K_cost_5 : decode prog_7_method_18_code 5 = .ok (.aload_n 0, 1) := by decide +kernel
theorem d_K_cost_6 : decode prog_7_method_18_code 6 = .ok (.invokevirtual 90, 3) := by decide +kernel
theorem d_K_cost_9 : decode prog_7_method_18_code 9 = .ok (.ifCond .ne 5, 3) := by decide +kernel
theorem d_K_cost_12 : decode prog_7_method_18_code 12 = .ok (.iconst (-1), 1) := by decide +kernel
theorem d_K_cost_13 : decode prog_7_method_18_code 13 = .ok (.ireturn, 1) := by decide +kernel
theorem d_K_cost_14 : decode prog_7_method_18_code 14 = .ok (.aload_n 0, 1) := by decide +kernel
theorem d_K_cost_15 : decode prog_7_method_18_code 15 = .ok (.iconst 0, 1) := by decide +kernel
theorem d_K_cost_16 : decode prog_7_method_18_code 16 = .ok (.invokevirtual 112, 3) := by decide +kernel
theorem d_K_cost_19 : decode prog_7_method_18_code 19 = .ok (.aload_n 0, 1) := by decide +kernel
theorem d_K_cost_20 : decode prog_7_method_18_code 20 = .ok (.getfield 28, 3) := by decide +kernel
theorem d_K_cost_23 : decode prog_7_method_18_code 23 = .ok (.aload_n 0, 1) := by decide +kernel
theorem d_K_cost_24 : decode prog_7_method_18_code 24 = .ok (.invokevirtual 98, 3) := by decide +kernel
theorem d_K_cost_27 : decode prog_7_method_18_code 27 = .ok (.iaload, 1) := by decide +kernel
theorem d_K_cost_28 : decode prog_7_method_18_code 28 = .ok (.ireturn, 1) := by decide +kernel
theorem d_K_findOrder_0 : decode prog_7_method_15_code 0 = .ok (.iconst 1, 1) := by decide +kernel
theorem d_K_findOrder_1 : decode prog_7_method_15_code 1 = .ok (.istore_n 2, 1) := by decide +kernel
theorem d_K_findOrder_2 : decode prog_7_method_15_code 2 = .ok (.iload_n 2, 1) := by decide +kernel
theorem d_K_findOrder_3 : decode prog_7_method_15_code 3 = .ok (.aload_n 0, 1) := by decide +kernel
theorem d_K_findOrder_4 : decode prog_7_method_15_code 4 = .ok (.invokevirtual 98, 3) := by decide +kernel
theorem d_K_findOrder_7 : decode prog_7_method_15_code 7 = .ok (.if_icmp .gt 15, 3) := by decide +kernel
theorem d_K_findOrder_10 : decode prog_7_method_15_code 10 = .ok (.aload_n 0, 1) := by decide +kernel
theorem d_K_findOrder_11 : decode prog_7_method_15_code 11 = .ok (.iload_n 2, 1) := by decide +kernel
theorem d_K_findOrder_12 : decode prog_7_method_15_code 12 = .ok (.iload_n 1, 1) := by decide +kernel
theorem d_K_findOrder_13 : decode prog_7_method_15_code 13 = .ok (.invokevirtual 102, 3) := by decide +kernel
theorem d_K_findOrder_16 : decode prog_7_method_15_code 16 = .ok (.iinc 2 1, 3) := by decide +kernel
theorem d_K_findOrder_19 : decode prog_7_method_15_code 19 = .ok (.goto (-17), 3) := by decide +kernel
theorem d_K_findOrder_22 : decode prog_7_method_15_code 22 = .ok (.return_, 1) := by decide +kernel
theorem d_K_all_0 : decode prog_7_method_14_code 0 = .ok (.iconst 1, 1) := by decide +kernel
theorem d_K_all_1 : decode prog_7_method_14_code 1 = .ok (.aload_n 0, 1) := by decide +kernel
theorem d_K_all_2 : decode prog_7_method_14_code 2 = .ok (.getfield 73, 3) := by decide +kernel
theorem d_K_all_5 : decode prog_7_method_14_code 5 = .ok (.ishl, 1) := by decide +kernel
theorem d_K_all_6 : decode prog_7_method_14_code 6 = .ok (.iconst 1, 1) := by decide +kernel
theorem d_K_all_7 : decode prog_7_method_14_code 7 = .ok (.isub, 1) := by decide +kernel
theorem d_K_all_8 : decode prog_7_method_14_code 8 = .ok (.ireturn, 1) := by decide +kernel
theorem d_K_findSet_0 : decode prog_7_method_13_code 0 = .ok (.iload_n 1, 1) := by decide +kernel
theorem d_K_findSet_1 : decode prog_7_method_13_code 1 = .ok (.iload_n 1, 1) := by decide +kernel
theorem d_K_findSet_2 : decode prog_7_method_13_code 2 = .ok (.ineg, 1) := by decide +kernel
theorem d_K_findSet_3 : decode prog_7_method_13_code 3 = .ok (.iand, 1) := by decide +kernel
theorem d_K_findSet_4 : decode prog_7_method_13_code 4 = .ok (.istore_n 3, 1) := by decide +kernel
theorem d_K_findSet_5 : decode prog_7_method_13_code 5 = .ok (.aload_n 0, 1) := by decide +kernel
theorem d_K_findSet_6 : decode prog_7_method_13_code 6 = .ok (.getfield 25, 3) := by decide +kernel
theorem d_K_findSet_9 : decode prog_7_method_13_code 9 = .ok (.iload_n 1, 1) := by decide +kernel
theorem d_K_findSet_10 : decode prog_7_method_13_code 10 = .ok (.iconst 0, 1) := by decide +kernel
theorem d_K_findSet_11 : decode prog_7_method_13_code 11 = .ok (.iastore, 1) := by decide +kernel
theorem d_K_findSet_12 : decode prog_7_method_13_code 12 = .ok (.iconst 0, 1) := by decide +kernel
theorem d_K_findSet_13 : decode prog_7_method_13_code 13 = .ok (.istore 4, 2) := by decide +kernel
theorem d_K_findSet_15 : decode prog_7_method_13_code 15 = .ok (.iload 4, 2) := by decide +kernel
theorem d_K_findSet_17 : decode prog_7_method_13_code 17 = .ok (.aload_n 0, 1) := by decide +kernel
theorem d_K_findSet_18 : decode prog_7_method_13_code 18 = .ok (.getfield 73, 3) := by decide +kernel
theorem d_K_findSet_21 : decode prog_7_method_13_code 21 = .ok (.if_icmp .ge 39, 3) := by decide +kernel
theorem d_K_findSet_24 : decode prog_7_method_13_code 24 = .ok (.iload_n 1, 1) := by decide +kernel
theorem d_K_findSet_25 : decode prog_7_method_13_code 25 = .ok (.iload 4, 2) := by decide +kernel
theorem d_K_findSet_27 : decode prog_7_method_13_code 27 = .ok (.ishr, 1) := by decide +kernel
theorem d_K_findSet_28 : decode prog_7_method_13_code 28 = .ok (.iconst 1, 1) := by decide +kernel
theorem d_K_findSet_29 : decode prog_7_method_13_code 29 = .ok (.iand, 1) := by decide +kernel
theorem d_K_findSet_30 : decode prog_7_method_13_code 30 = .ok (.iconst 1, 1) := by decide +kernel
theorem d_K_findSet_31 : decode prog_7_method_13_code 31 = .ok (.if_icmp .ne 23, 3) := by decide +kernel
theorem d_K_findSet_34 : decode prog_7_method_13_code 34 = .ok (.aload_n 0, 1) := by decide +kernel
theorem d_K_findSet_35 : decode prog_7_method_13_code 35 = .ok (.getfield 25, 3) := by decide +kernel
theorem d_K_findSet_38 : decode prog_7_method_13_code 38 = .ok (.iload_n 1, 1) := by decide +kernel
theorem d_K_findSet_39 : decode prog_7_method_13_code 39 = .ok (.dup2, 1) := by decide +kernel
theorem d_K_findSet_40 : decode prog_7_method_13_code 40 = .ok (.iaload, 1) := by decide +kernel
theorem d_K_findSet_41 : decode prog_7_method_13_code 41 = .ok (.aload_n 0, 1) := by decide +kernel
theorem d_K_findSet_42 : decode prog_7_method_13_code 42 = .ok (.getfield 22, 3) := by decide +kernel
theorem d_K_findSet_45 : decode prog_7_method_13_code 45 = .ok (.iload 4, 2) := by decide +kernel
theorem d_K_findSet_47 : decode prog_7_method_13_code 47 = .ok (.iaload, 1) := by decide +kernel
theorem d_K_findSet_48 : decode prog_7_method_13_code 48 = .ok (.iload_n 2, 1) := by decide +kernel
theorem d_K_findSet_49 : decode prog_7_method_13_code 49 = .ok (.iconst (-1), 1) := by decide +kernel
theorem d_K_findSet_50 : decode prog_7_method_13_code 50 = .ok (.ixor, 1) := by decide +kernel
theorem d_K_findSet_51 : decode prog_7_method_13_code 51 = .ok (.iand, 1) := by decide +kernel
theorem d_K_findSet_52 : decode prog_7_method_13_code 52 = .ok (.ixor, 1) := by decide +kernel
theorem d_K_findSet_53 : decode prog_7_method_13_code 53 = .ok (.iastore, 1) := by decide +kernel
theorem d_K_findSet_54 : decode prog_7_method_13_code 54 = .ok (.iinc 4 1, 3) := by decide +kernel
theorem d_K_findSet_57 : decode prog_7_method_13_code 57 = .ok (.goto (-42), 3) := by decide +kernel
theorem d_K_findSet_60 : decode prog_7_method_13_code 60 = .ok (.aload_n 0, 1) := by decide +kernel
theorem d_K_findSet_61 : decode prog_7_method_13_code 61 = .ok (.getfield 28, 3) := by decide +kernel
theorem d_K_findSet_64 : decode prog_7_method_13_code 64 = .ok (.iload_n 1, 1) := by decide +kernel
theorem d_K_findSet_65 : decode prog_7_method_13_code 65 = .ok (.iload_n 1, 1) := by decide +kernel
theorem d_K_findSet_66 : decode prog_7_method_13_code 66 = .ok (.iload_n 3, 1) := by decide +kernel
theorem d_K_findSet_67 : decode prog_7_method_13_code 67 = .ok (.if_icmp .ne 7, 3) := by decide +kernel
theorem d_K_findSet_70 : decode prog_7_method_13_code 70 = .ok (.iconst 0, 1) := by decide +kernel
theorem d_K_findSet_71 : decode prog_7_method_13_code 71 = .ok (.goto 4, 3) := by decide +kernel
theorem d_K_findSet_74 : decode prog_7_method_13_code 74 = .ok (.iconst (-1), 1) := by decide +kernel
theorem d_K_findSet_75 : decode prog_7_method_13_code 75 = .ok (.iastore, 1) := by decide +kernel
theorem d_K_findSet_76 : decode prog_7_method_13_code 76 = .ok (.aload_n 0, 1) := by decide +kernel
theorem d_K_findSet_77 : decode prog_7_method_13_code 77 = .ok (.getfield 31, 3) := by decide +kernel
theorem d_K_findSet_80 : decode prog_7_method_13_code 80 = .ok (.iload_n 1, 1) := by decide +kernel
theorem d_K_findSet_81 : decode prog_7_method_13_code 81 = .ok (.iconst 0, 1) := by decide +kernel
theorem d_K_findSet_82 : decode prog_7_method_13_code 82 = .ok (.iastore, 1) := by decide +kernel
theorem d_K_findSet_83 : decode prog_7_method_13_code 83 = .ok (.iload_n 3, 1) := by decide +kernel
theorem d_K_findSet_84 : decode prog_7_method_13_code 84 = .ok (.istore 4, 2) := by decide +kernel
theorem d_K_findSet_86 : decode prog_7_method_13_code 86 = .ok (.iload 4, 2) := by decide +kernel
theorem d_K_findSet_88 : decode prog_7_method_13_code 88 = .ok (.iload_n 1, 1) := by decide +kernel
theorem d_K_findSet_89 : decode prog_7_method_13_code 89 = .ok (.if_icmp .ge 114, 3) := by decide +kernel
theorem d_K_findSet_92 : decode prog_7_method_13_code 92 = .ok (.iload 4, 2) := by decide +kernel
theorem d_K_findSet_94 : decode prog_7_method_13_code 94 = .ok (.iload_n 1, 1) := by decide +kernel
theorem d_K_findSet_95 : decode prog_7_method_13_code 95 = .ok (.iconst (-1), 1) := by decide +kernel
theorem d_K_findSet_96 : decode prog_7_method_13_code 96 = .ok (.ixor, 1) := by decide +kernel
theorem d_K_findSet_97 : decode prog_7_method_13_code 97 = .ok (.iand, 1) := by decide +kernel
theorem d_K_findSet_98 : decode prog_7_method_13_code 98 = .ok (.ifCond .ne 99, 3) := by decide +kernel
theorem d_K_findSet_101 : decode prog_7_method_13_code 101 = .ok (.iload 4, 2) := by decide +kernel
theorem d_K_findSet_103 : decode prog_7_method_13_code 103 = .ok (.iload_n 3, 1) := by decide +kernel
theorem d_K_findSet_104 : decode prog_7_method_13_code 104 = .ok (.iand, 1) := by decide +kernel
theorem d_K_findSet_105 : decode prog_7_method_13_code 105 = .ok (.ifCond .ne 6, 3) := by decide +kernel
theorem d_K_findSet_108 : decode prog_7_method_13_code 108 = .ok (.goto 89, 3) := by decide +kernel
theorem d_K_findSet_111 : decode prog_7_method_13_code 111 = .ok (.iload_n 1, 1) := by decide +kernel
theorem d_K_findSet_112 : decode prog_7_method_13_code 112 = .ok (.iload 4, 2) := by decide +kernel
theorem d_K_findSet_114 : decode prog_7_method_13_code 114 = .ok (.iconst (-1), 1) := by decide +kernel
theorem d_K_findSet_115 : decode prog_7_method_13_code 115 = .ok (.ixor, 1) := by decide +kernel
theorem d_K_findSet_116 : decode prog_7_method_13_code 116 = .ok (.iand, 1) := by decide +kernel
theorem d_K_findSet_117 : decode prog_7_method_13_code 117 = .ok (.istore 5, 2) := by decide +kernel
theorem d_K_findSet_119 : decode prog_7_method_13_code 119 = .ok (.aload_n 0, 1) := by decide +kernel
theorem d_K_findSet_120 : decode prog_7_method_13_code 120 = .ok (.getfield 28, 3) := by decide +kernel
theorem d_K_findSet_123 : decode prog_7_method_13_code 123 = .ok (.iload 4, 2) := by decide +kernel
theorem d_K_findSet_125 : decode prog_7_method_13_code 125 = .ok (.iaload, 1) := by decide +kernel
theorem d_K_findSet_126 : decode prog_7_method_13_code 126 = .ok (.aload_n 0, 1) := by decide +kernel
theorem d_K_findSet_127 : decode prog_7_method_13_code 127 = .ok (.getfield 28, 3) := by decide +kernel
theorem d_K_findSet_130 : decode prog_7_method_13_code 130 = .ok (.iload 5, 2) := by decide +kernel
theorem d_K_findSet_132 : decode prog_7_method_13_code 132 = .ok (.iaload, 1) := by decide +kernel
theorem d_K_findSet_133 : decode prog_7_method_13_code 133 = .ok (.iadd, 1) := by decide +kernel
theorem d_K_findSet_134 : decode prog_7_method_13_code 134 = .ok (.iconst 1, 1) := by decide +kernel
theorem d_K_findSet_135 : decode prog_7_method_13_code 135 = .ok (.aload_n 0, 1) := by decide +kernel
theorem d_K_findSet_136 : decode prog_7_method_13_code 136 = .ok (.getfield 25, 3) := by decide +kernel
theorem d_K_findSet_139 : decode prog_7_method_13_code 139 = .ok (.iload 4, 2) := by decide +kernel
theorem d_K_findSet_141 : decode prog_7_method_13_code 141 = .ok (.iaload, 1) := by decide +kernel
theorem d_K_findSet_142 : decode prog_7_method_13_code 142 = .ok (.aload_n 0, 1) := by decide +kernel
theorem d_K_findSet_143 : decode prog_7_method_13_code 143 = .ok (.getfield 25, 3) := by decide +kernel
theorem d_K_findSet_146 : decode prog_7_method_13_code 146 = .ok (.iload 5, 2) := by decide +kernel
theorem d_K_findSet_148 : decode prog_7_method_13_code 148 = .ok (.iaload, 1) := by decide +kernel
theorem d_K_findSet_149 : decode prog_7_method_13_code 149 = .ok (.ior, 1) := by decide +kernel
theorem d_K_findSet_150 : decode prog_7_method_13_code 150 = .ok (.invokestatic 94, 3) := by decide +kernel
theorem d_K_findSet_153 : decode prog_7_method_13_code 153 = .ok (.ishl, 1) := by decide +kernel
theorem d_K_findSet_154 : decode prog_7_method_13_code 154 = .ok (.iadd, 1) := by decide +kernel
theorem d_K_findSet_155 : decode prog_7_method_13_code 155 = .ok (.istore 6, 2) := by decide +kernel
theorem d_K_findSet_157 : decode prog_7_method_13_code 157 = .ok (.aload_n 0, 1) := by decide +kernel
theorem d_K_findSet_158 : decode prog_7_method_13_code 158 = .ok (.getfield 28, 3) := by decide +kernel
theorem d_K_findSet_161 : decode prog_7_method_13_code 161 = .ok (.iload_n 1, 1) := by decide +kernel
theorem d_K_findSet_162 : decode prog_7_method_13_code 162 = .ok (.iaload, 1) := by decide +kernel
theorem d_K_findSet_163 : decode prog_7_method_13_code 163 = .ok (.iconst (-1), 1) := by decide +kernel
theorem d_K_findSet_164 : decode prog_7_method_13_code 164 = .ok (.if_icmp .eq 17, 3) := by decide +kernel
theorem d_K_findSet_167 : decode prog_7_method_13_code 167 = .ok (.iload 6, 2) := by decide +kernel
theorem d_K_findSet_169 : decode prog_7_method_13_code 169 = .ok (.aload_n 0, 1) := by decide +kernel
theorem d_K_findSet_170 : decode prog_7_method_13_code 170 = .ok (.getfield 28, 3) := by decide +kernel
theorem d_K_findSet_173 : decode prog_7_method_13_code 173 = .ok (.iload_n 1, 1) := by decide +kernel
theorem d_K_findSet_174 : decode prog_7_method_13_code 174 = .ok (.iaload, 1) := by decide +kernel
theorem d_K_findSet_175 : decode prog_7_method_13_code 175 = .ok (.if_icmp .lt 6, 3) := by decide +kernel
theorem d_K_findSet_178 : decode prog_7_method_13_code 178 = .ok (.goto 19, 3) := by decide +kernel
theorem d_K_findSet_181 : decode prog_7_method_13_code 181 = .ok (.aload_n 0, 1) := by decide +kernel
theorem d_K_findSet_182 : decode prog_7_method_13_code 182 = .ok (.getfield 28, 3) := by decide +kernel
theorem d_K_findSet_185 : decode prog_7_method_13_code 185 = .ok (.iload_n 1, 1) := by decide +kernel
theorem d_K_findSet_186 : decode prog_7_method_13_code 186 = .ok (.iload 6, 2) := by decide +kernel
theorem d_K_findSet_188 : decode prog_7_method_13_code 188 = .ok (.iastore, 1) := by decide +kernel
theorem d_K_findSet_189 : decode prog_7_method_13_code 189 = .ok (.aload_n 0, 1) := by decide +kernel
theorem d_K_findSet_190 : decode prog_7_method_13_code 190 = .ok (.getfield 31, 3) := by decide +kernel
theorem d_K_findSet_193 : decode prog_7_method_13_code 193 = .ok (.iload_n 1, 1) := by decide +kernel
theorem d_K_findSet_194 : decode prog_7_method_13_code 194 = .ok (.iload 4, 2) := by decide +kernel
theorem d_K_findSet_196 : decode prog_7_method_13_code 196 = .ok (.iastore, 1) := by decide +kernel
theorem d_K_findSet_197 : decode prog_7_method_13_code 197 = .ok (.iinc 4 1, 3) := by decide +kernel
theorem d_K_findSet_200 : decode prog_7_method_13_code 200 = .ok (.goto (-114), 3) := by decide +kernel
theorem d_K_findSet_203 : decode prog_7_method_13_code 203 = .ok (.return_, 1) := by decide +kernel
theorem d_K_count_0 : decode prog_7_method_5_code 0 = .ok (.iconst 0, 1) := by decide +kernel
theorem d_K_count_1 : decode prog_7_method_5_code 1 = .ok (.istore_n 1, 1) := by decide +kernel
theorem d_K_count_2 : decode prog_7_method_5_code 2 = .ok (.iconst 0, 1) := by decide +kernel
theorem d_K_count_3 : decode prog_7_method_5_code 3 = .ok (.istore_n 2, 1) := by decide +kernel
theorem d_K_count_4 : decode prog_7_method_5_code 4 = .ok (.iload_n 2, 1) := by decide +kernel
theorem d_K_count_5 : decode prog_7_method_5_code 5 = .ok (.bipush 20, 2) := by decide +kernel
theorem d_K_count_7 : decode prog_7_method_5_code 7 = .ok (.if_icmp .ge 17, 3) := by decide +kernel
theorem d_K_count_10 : decode prog_7_method_5_code 10 = .ok (.iload_n 1, 1) := by decide +kernel
theorem d_K_count_11 : decode prog_7_method_5_code 11 = .ok (.iload_n 0, 1) := by decide +kernel
theorem d_K_count_12 : decode prog_7_method_5_code 12 = .ok (.iload_n 2, 1) := by decide +kernel
theorem d_K_count_13 : decode prog_7_method_5_code 13 = .ok (.ishr, 1) := by decide +kernel
theorem d_K_count_14 : decode prog_7_method_5_code 14 = .ok (.iconst 1, 1) := by decide +kernel
theorem d_K_count_15 : decode prog_7_method_5_code 15 = .ok (.iand, 1) := by decide +kernel
theorem d_K_count_16 : decode prog_7_method_5_code 16 = .ok (.iadd, 1) := by decide +kernel
theorem d_K_count_17 : decode prog_7_method_5_code 17 = .ok (.istore_n 1, 1) := by decide +kernel
theorem d_K_count_18 : decode prog_7_method_5_code 18 = .ok (.iinc 2 1, 3) := by decide +kernel
theorem d_K_count_21 : decode prog_7_method_5_code 21 = .ok (.goto (-17), 3) := by decide +kernel
theorem d_K_count_24 : decode prog_7_method_5_code 24 = .ok (.iload_n 1, 1) := by decide +kernel
theorem d_K_count_25 : decode prog_7_method_5_code 25 = .ok (.ireturn, 1) := by decide +kernel
theorem d_K_peak_0 : decode prog_7_method_19_code 0 = .ok (.aload_n 0, 1) := by decide +kernel
theorem d_K_peak_1 : decode prog_7_method_19_code 1 = .ok (.iconst 0, 1) := by decide +kernel
theorem d_K_peak_2 : decode prog_7_method_19_code 2 = .ok (.putfield 69, 3) := by decide +kernel
theorem d_K_peak_5 : decode prog_7_method_19_code 5 = .ok (.aload_n 0, 1) := by decide +kernel
theorem d_K_peak_6 : decode prog_7_method_19_code 6 = .ok (.invokevirtual 90, 3) := by decide +kernel
theorem d_K_peak_9 : decode prog_7_method_19_code 9 = .ok (.ifCond .ne 5, 3) := by decide +kernel
theorem d_K_peak_12 : decode prog_7_method_19_code 12 = .ok (.iconst (-1), 1) := by decide +kernel
theorem d_K_peak_13 : decode prog_7_method_19_code 13 = .ok (.ireturn, 1) := by decide +kernel
theorem d_K_peak_14 : decode prog_7_method_19_code 14 = .ok (.aload_n 0, 1) := by decide +kernel
theorem d_K_peak_15 : decode prog_7_method_19_code 15 = .ok (.iconst 0, 1) := by decide +kernel
theorem d_K_peak_16 : decode prog_7_method_19_code 16 = .ok (.invokevirtual 112, 3) := by decide +kernel
theorem d_K_peak_19 : decode prog_7_method_19_code 19 = .ok (.aload_n 0, 1) := by decide +kernel
theorem d_K_peak_20 : decode prog_7_method_19_code 20 = .ok (.invokevirtual 116, 3) := by decide +kernel
theorem d_K_peak_23 : decode prog_7_method_19_code 23 = .ok (.ireturn, 1) := by decide +kernel
theorem d_K_peakNow_0 : decode prog_7_method_17_code 0 = .ok (.iconst 0, 1) := by decide +kernel
theorem d_K_peakNow_1 : decode prog_7_method_17_code 1 = .ok (.istore_n 1, 1) := by decide +kernel
theorem d_K_peakNow_2 : decode prog_7_method_17_code 2 = .ok (.iconst 0, 1) := by decide +kernel
theorem d_K_peakNow_3 : decode prog_7_method_17_code 3 = .ok (.istore_n 2, 1) := by decide +kernel
theorem d_K_peakNow_4 : decode prog_7_method_17_code 4 = .ok (.iload_n 2, 1) := by decide +kernel
theorem d_K_peakNow_5 : decode prog_7_method_17_code 5 = .ok (.aload_n 0, 1) := by decide +kernel
theorem d_K_peakNow_6 : decode prog_7_method_17_code 6 = .ok (.getfield 73, 3) := by decide +kernel
theorem d_K_peakNow_9 : decode prog_7_method_17_code 9 = .ok (.if_icmp .ge 40, 3) := by decide +kernel
theorem d_K_peakNow_12 : decode prog_7_method_17_code 12 = .ok (.aload_n 0, 1) := by decide +kernel
theorem d_K_peakNow_13 : decode prog_7_method_17_code 13 = .ok (.getfield 25, 3) := by decide +kernel
theorem d_K_peakNow_16 : decode prog_7_method_17_code 16 = .ok (.iconst 1, 1) := by decide +kernel
theorem d_K_peakNow_17 : decode prog_7_method_17_code 17 = .ok (.iload_n 2, 1) := by decide +kernel
theorem d_K_peakNow_18 : decode prog_7_method_17_code 18 = .ok (.ishl, 1) := by decide +kernel
theorem d_K_peakNow_19 : decode prog_7_method_17_code 19 = .ok (.iaload, 1) := by decide +kernel
theorem d_K_peakNow_20 : decode prog_7_method_17_code 20 = .ok (.invokestatic 94, 3) := by decide +kernel
theorem d_K_peakNow_23 : decode prog_7_method_17_code 23 = .ok (.iload_n 1, 1) := by decide +kernel
theorem d_K_peakNow_24 : decode prog_7_method_17_code 24 = .ok (.if_icmp .le 17, 3) := by decide +kernel
theorem d_K_peakNow_27 : decode prog_7_method_17_code 27 = .ok (.aload_n 0, 1) := by decide +kernel
theorem d_K_peakNow_28 : decode prog_7_method_17_code 28 = .ok (.getfield 25, 3) := by decide +kernel
theorem d_K_peakNow_31 : decode prog_7_method_17_code 31 = .ok (.iconst 1, 1) := by decide +kernel
theorem d_K_peakNow_32 : decode prog_7_method_17_code 32 = .ok (.iload_n 2, 1) := by decide +kernel
theorem d_K_peakNow_33 : decode prog_7_method_17_code 33 = .ok (.ishl, 1) := by decide +kernel
theorem d_K_peakNow_34 : decode prog_7_method_17_code 34 = .ok (.iaload, 1) := by decide +kernel
theorem d_K_peakNow_35 : decode prog_7_method_17_code 35 = .ok (.invokestatic 94, 3) := by decide +kernel
theorem d_K_peakNow_38 : decode prog_7_method_17_code 38 = .ok (.goto 4, 3) := by decide +kernel
theorem d_K_peakNow_41 : decode prog_7_method_17_code 41 = .ok (.iload_n 1, 1) := by decide +kernel
theorem d_K_peakNow_42 : decode prog_7_method_17_code 42 = .ok (.istore_n 1, 1) := by decide +kernel
theorem d_K_peakNow_43 : decode prog_7_method_17_code 43 = .ok (.iinc 2 1, 3) := by decide +kernel
theorem d_K_peakNow_46 : decode prog_7_method_17_code 46 = .ok (.goto (-42), 3) := by decide +kernel
theorem d_K_peakNow_49 : decode prog_7_method_17_code 49 = .ok (.aload_n 0, 1) := by decide +kernel
theorem d_K_peakNow_50 : decode prog_7_method_17_code 50 = .ok (.invokevirtual 109, 3) := by decide +kernel
theorem d_K_peakNow_53 : decode prog_7_method_17_code 53 = .ok (.iconst 0, 1) := by decide +kernel
theorem d_K_peakNow_54 : decode prog_7_method_17_code 54 = .ok (.istore_n 2, 1) := by decide +kernel
theorem d_K_peakNow_55 : decode prog_7_method_17_code 55 = .ok (.iload_n 2, 1) := by decide +kernel
theorem d_K_peakNow_56 : decode prog_7_method_17_code 56 = .ok (.aload_n 0, 1) := by decide +kernel
theorem d_K_peakNow_57 : decode prog_7_method_17_code 57 = .ok (.getfield 106, 3) := by decide +kernel
theorem d_K_peakNow_60 : decode prog_7_method_17_code 60 = .ok (.if_icmp .ge 46, 3) := by decide +kernel
theorem d_K_peakNow_63 : decode prog_7_method_17_code 63 = .ok (.aload_n 0, 1) := by decide +kernel
theorem d_K_peakNow_64 : decode prog_7_method_17_code 64 = .ok (.getfield 25, 3) := by decide +kernel
theorem d_K_peakNow_67 : decode prog_7_method_17_code 67 = .ok (.aload_n 0, 1) := by decide +kernel
theorem d_K_peakNow_68 : decode prog_7_method_17_code 68 = .ok (.getfield 34, 3) := by decide +kernel
theorem d_K_peakNow_71 : decode prog_7_method_17_code 71 = .ok (.iload_n 2, 1) := by decide +kernel
theorem d_K_peakNow_72 : decode prog_7_method_17_code 72 = .ok (.iaload, 1) := by decide +kernel
theorem d_K_peakNow_73 : decode prog_7_method_17_code 73 = .ok (.iaload, 1) := by decide +kernel
theorem d_K_peakNow_74 : decode prog_7_method_17_code 74 = .ok (.invokestatic 94, 3) := by decide +kernel
theorem d_K_peakNow_77 : decode prog_7_method_17_code 77 = .ok (.iload_n 1, 1) := by decide +kernel
theorem d_K_peakNow_78 : decode prog_7_method_17_code 78 = .ok (.if_icmp .le 20, 3) := by decide +kernel
theorem d_K_peakNow_81 : decode prog_7_method_17_code 81 = .ok (.aload_n 0, 1) := by decide +kernel
theorem d_K_peakNow_82 : decode prog_7_method_17_code 82 = .ok (.getfield 25, 3) := by decide +kernel
theorem d_K_peakNow_85 : decode prog_7_method_17_code 85 = .ok (.aload_n 0, 1) := by decide +kernel
theorem d_K_peakNow_86 : decode prog_7_method_17_code 86 = .ok (.getfield 34, 3) := by decide +kernel
theorem d_K_peakNow_89 : decode prog_7_method_17_code 89 = .ok (.iload_n 2, 1) := by decide +kernel
theorem d_K_peakNow_90 : decode prog_7_method_17_code 90 = .ok (.iaload, 1) := by decide +kernel
theorem d_K_peakNow_91 : decode prog_7_method_17_code 91 = .ok (.iaload, 1) := by decide +kernel
theorem d_K_peakNow_92 : decode prog_7_method_17_code 92 = .ok (.invokestatic 94, 3) := by decide +kernel
theorem d_K_peakNow_95 : decode prog_7_method_17_code 95 = .ok (.goto 4, 3) := by decide +kernel
theorem d_K_peakNow_98 : decode prog_7_method_17_code 98 = .ok (.iload_n 1, 1) := by decide +kernel
theorem d_K_peakNow_99 : decode prog_7_method_17_code 99 = .ok (.istore_n 1, 1) := by decide +kernel
theorem d_K_peakNow_100 : decode prog_7_method_17_code 100 = .ok (.iinc 2 1, 3) := by decide +kernel
theorem d_K_peakNow_103 : decode prog_7_method_17_code 103 = .ok (.goto (-48), 3) := by decide +kernel
theorem d_K_peakNow_106 : decode prog_7_method_17_code 106 = .ok (.iload_n 1, 1) := by decide +kernel
theorem d_K_peakNow_107 : decode prog_7_method_17_code 107 = .ok (.ireturn, 1) := by decide +kernel
theorem d_K_findSteps_0 : decode prog_7_method_16_code 0 = .ok (.aload_n 0, 1) := by decide +kernel
theorem d_K_findSteps_1 : decode prog_7_method_16_code 1 = .ok (.iconst 0, 1) := by decide +kernel
theorem d_K_findSteps_2 : decode prog_7_method_16_code 2 = .ok (.putfield 106, 3) := by decide +kernel
theorem d_K_findSteps_5 : decode prog_7_method_16_code 5 = .ok (.iconst 1, 1) := by decide +kernel
theorem d_K_findSteps_6 : decode prog_7_method_16_code 6 = .ok (.istore_n 1, 1) := by decide +kernel
theorem d_K_findSteps_7 : decode prog_7_method_16_code 7 = .ok (.aload_n 0, 1) := by decide +kernel
theorem d_K_findSteps_8 : decode prog_7_method_16_code 8 = .ok (.getfield 37, 3) := by decide +kernel
theorem d_K_findSteps_11 : decode prog_7_method_16_code 11 = .ok (.iconst 0, 1) := by decide +kernel
theorem d_K_findSteps_12 : decode prog_7_method_16_code 12 = .ok (.aload_n 0, 1) := by decide +kernel
theorem d_K_findSteps_13 : decode prog_7_method_16_code 13 = .ok (.invokevirtual 98, 3) := by decide +kernel
theorem d_K_findSteps_16 : decode prog_7_method_16_code 16 = .ok (.iastore, 1) := by decide +kernel
theorem d_K_findSteps_17 : decode prog_7_method_16_code 17 = .ok (.iload_n 1, 1) := by decide +kernel
theorem d_K_findSteps_18 : decode prog_7_method_16_code 18 = .ok (.ifCond .le 81, 3) := by decide +kernel
theorem d_K_findSteps_21 : decode prog_7_method_16_code 21 = .ok (.iinc 1 (-1), 3) := by decide +kernel
theorem d_K_findSteps_24 : decode prog_7_method_16_code 24 = .ok (.aload_n 0, 1) := by decide +kernel
theorem d_K_findSteps_25 : decode prog_7_method_16_code 25 = .ok (.getfield 37, 3) := by decide +kernel
theorem d_K_findSteps_28 : decode prog_7_method_16_code 28 = .ok (.iload_n 1, 1) := by decide +kernel
theorem d_K_findSteps_29 : decode prog_7_method_16_code 29 = .ok (.iaload, 1) := by decide +kernel
theorem d_K_findSteps_30 : decode prog_7_method_16_code 30 = .ok (.istore_n 2, 1) := by decide +kernel
theorem d_K_findSteps_31 : decode prog_7_method_16_code 31 = .ok (.aload_n 0, 1) := by decide +kernel
theorem d_K_findSteps_32 : decode prog_7_method_16_code 32 = .ok (.getfield 31, 3) := by decide +kernel
theorem d_K_findSteps_35 : decode prog_7_method_16_code 35 = .ok (.iload_n 2, 1) := by decide +kernel
theorem d_K_findSteps_36 : decode prog_7_method_16_code 36 = .ok (.iaload, 1) := by decide +kernel
theorem d_K_findSteps_37 : decode prog_7_method_16_code 37 = .ok (.ifCond .ne 6, 3) := by decide +kernel
theorem d_K_findSteps_40 : decode prog_7_method_16_code 40 = .ok (.goto (-23), 3) := by decide +kernel
theorem d_K_findSteps_43 : decode prog_7_method_16_code 43 = .ok (.aload_n 0, 1) := by decide +kernel
theorem d_K_findSteps_44 : decode prog_7_method_16_code 44 = .ok (.getfield 34, 3) := by decide +kernel
theorem d_K_findSteps_47 : decode prog_7_method_16_code 47 = .ok (.aload_n 0, 1) := by decide +kernel
theorem d_K_findSteps_48 : decode prog_7_method_16_code 48 = .ok (.getfield 106, 3) := by decide +kernel
theorem d_K_findSteps_51 : decode prog_7_method_16_code 51 = .ok (.iload_n 2, 1) := by decide +kernel
theorem d_K_findSteps_52 : decode prog_7_method_16_code 52 = .ok (.iastore, 1) := by decide +kernel
theorem d_K_findSteps_53 : decode prog_7_method_16_code 53 = .ok (.aload_n 0, 1) := by decide +kernel
theorem d_K_findSteps_54 : decode prog_7_method_16_code 54 = .ok (.dup, 1) := by decide +kernel
theorem d_K_findSteps_55 : decode prog_7_method_16_code 55 = .ok (.getfield 106, 3) := by decide +kernel
theorem d_K_findSteps_58 : decode prog_7_method_16_code 58 = .ok (.iconst 1, 1) := by decide +kernel
theorem d_K_findSteps_59 : decode prog_7_method_16_code 59 = .ok (.iadd, 1) := by decide +kernel
theorem d_K_findSteps_60 : decode prog_7_method_16_code 60 = .ok (.putfield 106, 3) := by decide +kernel
theorem d_K_findSteps_63 : decode prog_7_method_16_code 63 = .ok (.aload_n 0, 1) := by decide +kernel
theorem d_K_findSteps_64 : decode prog_7_method_16_code 64 = .ok (.getfield 37, 3) := by decide +kernel
theorem d_K_findSteps_67 : decode prog_7_method_16_code 67 = .ok (.iload_n 1, 1) := by decide +kernel
theorem d_K_findSteps_68 : decode prog_7_method_16_code 68 = .ok (.aload_n 0, 1) := by decide +kernel
theorem d_K_findSteps_69 : decode prog_7_method_16_code 69 = .ok (.getfield 31, 3) := by decide +kernel
theorem d_K_findSteps_72 : decode prog_7_method_16_code 72 = .ok (.iload_n 2, 1) := by decide +kernel
theorem d_K_findSteps_73 : decode prog_7_method_16_code 73 = .ok (.iaload, 1) := by decide +kernel
theorem d_K_findSteps_74 : decode prog_7_method_16_code 74 = .ok (.iastore, 1) := by decide +kernel
theorem d_K_findSteps_75 : decode prog_7_method_16_code 75 = .ok (.aload_n 0, 1) := by decide +kernel
theorem d_K_findSteps_76 : decode prog_7_method_16_code 76 = .ok (.getfield 37, 3) := by decide +kernel
theorem d_K_findSteps_79 : decode prog_7_method_16_code 79 = .ok (.iload_n 1, 1) := by decide +kernel
theorem d_K_findSteps_80 : decode prog_7_method_16_code 80 = .ok (.iconst 1, 1) := by decide +kernel
theorem d_K_findSteps_81 : decode prog_7_method_16_code 81 = .ok (.iadd, 1) := by decide +kernel
theorem d_K_findSteps_82 : decode prog_7_method_16_code 82 = .ok (.iload_n 2, 1) := by decide +kernel
theorem d_K_findSteps_83 : decode prog_7_method_16_code 83 = .ok (.aload_n 0, 1) := by decide +kernel
theorem d_K_findSteps_84 : decode prog_7_method_16_code 84 = .ok (.getfield 31, 3) := by decide +kernel
theorem d_K_findSteps_87 : decode prog_7_method_16_code 87 = .ok (.iload_n 2, 1) := by decide +kernel
theorem d_K_findSteps_88 : decode prog_7_method_16_code 88 = .ok (.iaload, 1) := by decide +kernel
theorem d_K_findSteps_89 : decode prog_7_method_16_code 89 = .ok (.iconst (-1), 1) := by decide +kernel
theorem d_K_findSteps_90 : decode prog_7_method_16_code 90 = .ok (.ixor, 1) := by decide +kernel
theorem d_K_findSteps_91 : decode prog_7_method_16_code 91 = .ok (.iand, 1) := by decide +kernel
theorem d_K_findSteps_92 : decode prog_7_method_16_code 92 = .ok (.iastore, 1) := by decide +kernel
theorem d_K_findSteps_93 : decode prog_7_method_16_code 93 = .ok (.iinc 1 2, 3) := by decide +kernel
theorem d_K_findSteps_96 : decode prog_7_method_16_code 96 = .ok (.goto (-79), 3) := by decide +kernel
theorem d_K_findSteps_99 : decode prog_7_method_16_code 99 = .ok (.return_, 1) := by decide +kernel
theorem d_K_step_0 : decode prog_7_method_20_code 0 = .ok (.aload_n 0, 1) := by decide +kernel
theorem d_K_step_1 : decode prog_7_method_20_code 1 = .ok (.iconst 0, 1) := by decide +kernel
theorem d_K_step_2 : decode prog_7_method_20_code 2 = .ok (.putfield 69, 3) := by decide +kernel
theorem d_K_step_5 : decode prog_7_method_20_code 5 = .ok (.aload_n 0, 1) := by decide +kernel
theorem d_K_step_6 : decode prog_7_method_20_code 6 = .ok (.invokevirtual 90, 3) := by decide +kernel
theorem d_K_step_9 : decode prog_7_method_20_code 9 = .ok (.ifCond .eq 12, 3) := by decide +kernel
theorem d_K_step_12 : decode prog_7_method_20_code 12 = .ok (.iload_n 2, 1) := by decide +kernel
theorem d_K_step_13 : decode prog_7_method_20_code 13 = .ok (.ifCond .lt 8, 3) := by decide +kernel
theorem d_K_step_16 : decode prog_7_method_20_code 16 = .ok (.iload_n 2, 1) := by decide +kernel
theorem d_K_step_17 : decode prog_7_method_20_code 17 = .ok (.iconst 1, 1) := by decide +kernel
theorem d_K_step_18 : decode prog_7_method_20_code 18 = .ok (.if_icmp .le 5, 3) := by decide +kernel
theorem d_K_step_21 : decode prog_7_method_20_code 21 = .ok (.iconst (-1), 1) := by decide +kernel
theorem d_K_step_22 : decode prog_7_method_20_code 22 = .ok (.ireturn, 1) := by decide +kernel
theorem d_K_step_23 : decode prog_7_method_20_code 23 = .ok (.aload_n 0, 1) := by decide +kernel
theorem d_K_step_24 : decode prog_7_method_20_code 24 = .ok (.iconst 0, 1) := by decide +kernel
theorem d_K_step_25 : decode prog_7_method_20_code 25 = .ok (.invokevirtual 112, 3) := by decide +kernel
theorem d_K_step_28 : decode prog_7_method_20_code 28 = .ok (.aload_n 0, 1) := by decide +kernel
theorem d_K_step_29 : decode prog_7_method_20_code 29 = .ok (.invokevirtual 109, 3) := by decide +kernel
theorem d_K_step_32 : decode prog_7_method_20_code 32 = .ok (.iload_n 1, 1) := by decide +kernel
theorem d_K_step_33 : decode prog_7_method_20_code 33 = .ok (.ifCond .lt 11, 3) := by decide +kernel
theorem d_K_step_36 : decode prog_7_method_20_code 36 = .ok (.iload_n 1, 1) := by decide +kernel
theorem d_K_step_37 : decode prog_7_method_20_code 37 = .ok (.aload_n 0, 1) := by decide +kernel
theorem d_K_step_38 : decode prog_7_method_20_code 38 = .ok (.getfield 106, 3) := by decide +kernel
theorem d_K_step_41 : decode prog_7_method_20_code 41 = .ok (.if_icmp .lt 5, 3) := by decide +kernel
theorem d_K_step_44 : decode prog_7_method_20_code 44 = .ok (.iconst (-1), 1) := by decide +kernel
theorem d_K_step_45 : decode prog_7_method_20_code 45 = .ok (.ireturn, 1) := by decide +kernel
theorem d_K_step_46 : decode prog_7_method_20_code 46 = .ok (.aload_n 0, 1) := by decide +kernel
theorem d_K_step_47 : decode prog_7_method_20_code 47 = .ok (.getfield 34, 3) := by decide +kernel
theorem d_K_step_50 : decode prog_7_method_20_code 50 = .ok (.aload_n 0, 1) := by decide +kernel
theorem d_K_step_51 : decode prog_7_method_20_code 51 = .ok (.getfield 106, 3) := by decide +kernel
theorem d_K_step_54 : decode prog_7_method_20_code 54 = .ok (.iconst 1, 1) := by decide +kernel
theorem d_K_step_55 : decode prog_7_method_20_code 55 = .ok (.isub, 1) := by decide +kernel
theorem d_K_step_56 : decode prog_7_method_20_code 56 = .ok (.iload_n 1, 1) := by decide +kernel
theorem d_K_step_57 : decode prog_7_method_20_code 57 = .ok (.isub, 1) := by decide +kernel
theorem d_K_step_58 : decode prog_7_method_20_code 58 = .ok (.iaload, 1) := by decide +kernel
theorem d_K_step_59 : decode prog_7_method_20_code 59 = .ok (.istore_n 3, 1) := by decide +kernel
theorem d_K_step_60 : decode prog_7_method_20_code 60 = .ok (.iload_n 2, 1) := by decide +kernel
theorem d_K_step_61 : decode prog_7_method_20_code 61 = .ok (.ifCond .ne 12, 3) := by decide +kernel
theorem d_K_step_64 : decode prog_7_method_20_code 64 = .ok (.aload_n 0, 1) := by decide +kernel
theorem d_K_step_65 : decode prog_7_method_20_code 65 = .ok (.getfield 31, 3) := by decide +kernel
theorem d_K_step_68 : decode prog_7_method_20_code 68 = .ok (.iload_n 3, 1) := by decide +kernel
theorem d_K_step_69 : decode prog_7_method_20_code 69 = .ok (.iaload, 1) := by decide +kernel
theorem d_K_step_70 : decode prog_7_method_20_code 70 = .ok (.goto 13, 3) := by decide +kernel
theorem d_K_step_73 : decode prog_7_method_20_code 73 = .ok (.iload_n 3, 1) := by decide +kernel
theorem d_K_step_74 : decode prog_7_method_20_code 74 = .ok (.aload_n 0, 1) := by decide +kernel
theorem d_K_step_75 : decode prog_7_method_20_code 75 = .ok (.getfield 31, 3) := by decide +kernel
theorem d_K_step_78 : decode prog_7_method_20_code 78 = .ok (.iload_n 3, 1) := by decide +kernel
theorem d_K_step_79 : decode prog_7_method_20_code 79 = .ok (.iaload, 1) := by decide +kernel
theorem d_K_step_80 : decode prog_7_method_20_code 80 = .ok (.iconst (-1), 1) := by decide +kernel
theorem d_K_step_81 : decode prog_7_method_20_code 81 = .ok (.ixor, 1) := by decide +kernel
theorem d_K_step_82 : decode prog_7_method_20_code 82 = .ok (.iand, 1) := by decide +kernel
theorem d_K_step_83 : decode prog_7_method_20_code 83 = .ok (.ireturn, 1) := by decide +kernel
theorem d_K_cut_0 : decode prog_7_method_21_code 0 = .ok (.aload_n 0, 1) := by decide +kernel
theorem d_K_cut_1 : decode prog_7_method_21_code 1 = .ok (.iconst 0, 1) := by decide +kernel
theorem d_K_cut_2 : decode prog_7_method_21_code 2 = .ok (.putfield 69, 3) := by decide +kernel
theorem d_K_cut_5 : decode prog_7_method_21_code 5 = .ok (.aload_n 0, 1) := by decide +kernel
theorem d_K_cut_6 : decode prog_7_method_21_code 6 = .ok (.invokevirtual 90, 3) := by decide +kernel
theorem d_K_cut_9 : decode prog_7_method_21_code 9 = .ok (.ifCond .eq 7, 3) := by decide +kernel
theorem d_K_cut_12 : decode prog_7_method_21_code 12 = .ok (.iload_n 1, 1) := by decide +kernel
theorem d_K_cut_13 : decode prog_7_method_21_code 13 = .ok (.ifCond .ge 5, 3) := by decide +kernel
theorem d_K_cut_16 : decode prog_7_method_21_code 16 = .ok (.iconst (-1), 1) := by decide +kernel
theorem d_K_cut_17 : decode prog_7_method_21_code 17 = .ok (.ireturn, 1) := by decide +kernel
theorem d_K_cut_18 : decode prog_7_method_21_code 18 = .ok (.aload_n 0, 1) := by decide +kernel
theorem d_K_cut_19 : decode prog_7_method_21_code 19 = .ok (.iconst 0, 1) := by decide +kernel
theorem d_K_cut_20 : decode prog_7_method_21_code 20 = .ok (.iload_n 1, 1) := by decide +kernel
theorem d_K_cut_21 : decode prog_7_method_21_code 21 = .ok (.invokevirtual 119, 3) := by decide +kernel
theorem d_K_cut_24 : decode prog_7_method_21_code 24 = .ok (.ifCond .eq 5, 3) := by decide +kernel
theorem d_K_cut_27 : decode prog_7_method_21_code 27 = .ok (.iconst 0, 1) := by decide +kernel
theorem d_K_cut_28 : decode prog_7_method_21_code 28 = .ok (.ireturn, 1) := by decide +kernel
theorem d_K_cut_29 : decode prog_7_method_21_code 29 = .ok (.iconst 0, 1) := by decide +kernel
theorem d_K_cut_30 : decode prog_7_method_21_code 30 = .ok (.istore_n 2, 1) := by decide +kernel
theorem d_K_cut_31 : decode prog_7_method_21_code 31 = .ok (.iload_n 2, 1) := by decide +kernel
theorem d_K_cut_32 : decode prog_7_method_21_code 32 = .ok (.bipush 20, 2) := by decide +kernel
theorem d_K_cut_34 : decode prog_7_method_21_code 34 = .ok (.if_icmp .ge 36, 3) := by decide +kernel
theorem d_K_cut_37 : decode prog_7_method_21_code 37 = .ok (.aload_n 0, 1) := by decide +kernel
theorem d_K_cut_38 : decode prog_7_method_21_code 38 = .ok (.getfield 87, 3) := by decide +kernel
theorem d_K_cut_41 : decode prog_7_method_21_code 41 = .ok (.iload_n 2, 1) := by decide +kernel
theorem d_K_cut_42 : decode prog_7_method_21_code 42 = .ok (.ishr, 1) := by decide +kernel
theorem d_K_cut_43 : decode prog_7_method_21_code 43 = .ok (.iconst 1, 1) := by decide +kernel
theorem d_K_cut_44 : decode prog_7_method_21_code 44 = .ok (.iand, 1) := by decide +kernel
theorem d_K_cut_45 : decode prog_7_method_21_code 45 = .ok (.iconst 1, 1) := by decide +kernel
theorem d_K_cut_46 : decode prog_7_method_21_code 46 = .ok (.if_icmp .ne 18, 3) := by decide +kernel
theorem d_K_cut_49 : decode prog_7_method_21_code 49 = .ok (.aload_n 0, 1) := by decide +kernel
theorem d_K_cut_50 : decode prog_7_method_21_code 50 = .ok (.iconst 1, 1) := by decide +kernel
theorem d_K_cut_51 : decode prog_7_method_21_code 51 = .ok (.iload_n 2, 1) := by decide +kernel
theorem d_K_cut_52 : decode prog_7_method_21_code 52 = .ok (.ishl, 1) := by decide +kernel
theorem d_K_cut_53 : decode prog_7_method_21_code 53 = .ok (.iload_n 1, 1) := by decide +kernel
theorem d_K_cut_54 : decode prog_7_method_21_code 54 = .ok (.invokevirtual 119, 3) := by decide +kernel
theorem d_K_cut_57 : decode prog_7_method_21_code 57 = .ok (.ifCond .eq 7, 3) := by decide +kernel
theorem d_K_cut_60 : decode prog_7_method_21_code 60 = .ok (.iconst 1, 1) := by decide +kernel
theorem d_K_cut_61 : decode prog_7_method_21_code 61 = .ok (.iload_n 2, 1) := by decide +kernel
theorem d_K_cut_62 : decode prog_7_method_21_code 62 = .ok (.ishl, 1) := by decide +kernel
theorem d_K_cut_63 : decode prog_7_method_21_code 63 = .ok (.ireturn, 1) := by decide +kernel
theorem d_K_cut_64 : decode prog_7_method_21_code 64 = .ok (.iinc 2 1, 3) := by decide +kernel
theorem d_K_cut_67 : decode prog_7_method_21_code 67 = .ok (.goto (-36), 3) := by decide +kernel
theorem d_K_cut_70 : decode prog_7_method_21_code 70 = .ok (.iconst 0, 1) := by decide +kernel
theorem d_K_cut_71 : decode prog_7_method_21_code 71 = .ok (.istore_n 2, 1) := by decide +kernel
theorem d_K_cut_72 : decode prog_7_method_21_code 72 = .ok (.iload_n 2, 1) := by decide +kernel
theorem d_K_cut_73 : decode prog_7_method_21_code 73 = .ok (.bipush 20, 2) := by decide +kernel
theorem d_K_cut_75 : decode prog_7_method_21_code 75 = .ok (.if_icmp .ge 56, 3) := by decide +kernel
theorem d_K_cut_78 : decode prog_7_method_21_code 78 = .ok (.iconst 0, 1) := by decide +kernel
theorem d_K_cut_79 : decode prog_7_method_21_code 79 = .ok (.istore_n 3, 1) := by decide +kernel
theorem d_K_cut_80 : decode prog_7_method_21_code 80 = .ok (.iload_n 3, 1) := by decide +kernel
theorem d_K_cut_81 : decode prog_7_method_21_code 81 = .ok (.iload_n 2, 1) := by decide +kernel
theorem d_K_cut_82 : decode prog_7_method_21_code 82 = .ok (.if_icmp .ge 43, 3) := by decide +kernel
theorem d_K_cut_85 : decode prog_7_method_21_code 85 = .ok (.iconst 1, 1) := by decide +kernel
theorem d_K_cut_86 : decode prog_7_method_21_code 86 = .ok (.iload_n 3, 1) := by decide +kernel
theorem d_K_cut_87 : decode prog_7_method_21_code 87 = .ok (.ishl, 1) := by decide +kernel
theorem d_K_cut_88 : decode prog_7_method_21_code 88 = .ok (.iconst 1, 1) := by decide +kernel
theorem d_K_cut_89 : decode prog_7_method_21_code 89 = .ok (.iload_n 2, 1) := by decide +kernel
theorem d_K_cut_90 : decode prog_7_method_21_code 90 = .ok (.ishl, 1) := by decide +kernel
theorem d_K_cut_91 : decode prog_7_method_21_code 91 = .ok (.ior, 1) := by decide +kernel
theorem d_K_cut_92 : decode prog_7_method_21_code 92 = .ok (.istore 4, 2) := by decide +kernel
theorem d_K_cut_94 : decode prog_7_method_21_code 94 = .ok (.aload_n 0, 1) := by decide +kernel
theorem d_K_cut_95 : decode prog_7_method_21_code 95 = .ok (.getfield 87, 3) := by decide +kernel
theorem d_K_cut_98 : decode prog_7_method_21_code 98 = .ok (.iload 4, 2) := by decide +kernel
theorem d_K_cut_100 : decode prog_7_method_21_code 100 = .ok (.iand, 1) := by decide +kernel
theorem d_K_cut_101 : decode prog_7_method_21_code 101 = .ok (.iload 4, 2) := by decide +kernel
theorem d_K_cut_103 : decode prog_7_method_21_code 103 = .ok (.if_icmp .ne 16, 3) := by decide +kernel
theorem d_K_cut_106 : decode prog_7_method_21_code 106 = .ok (.aload_n 0, 1) := by decide +kernel
theorem d_K_cut_107 : decode prog_7_method_21_code 107 = .ok (.iload 4, 2) := by decide +kernel
theorem d_K_cut_109 : decode prog_7_method_21_code 109 = .ok (.iload_n 1, 1) := by decide +kernel
theorem d_K_cut_110 : decode prog_7_method_21_code 110 = .ok (.invokevirtual 119, 3) := by decide +kernel
theorem d_K_cut_113 : decode prog_7_method_21_code 113 = .ok (.ifCond .eq 6, 3) := by decide +kernel
theorem d_K_cut_116 : decode prog_7_method_21_code 116 = .ok (.iload 4, 2) := by decide +kernel
theorem d_K_cut_118 : decode prog_7_method_21_code 118 = .ok (.ireturn, 1) := by decide +kernel
theorem d_K_cut_119 : decode prog_7_method_21_code 119 = .ok (.iinc 3 1, 3) := by decide +kernel
theorem d_K_cut_122 : decode prog_7_method_21_code 122 = .ok (.goto (-42), 3) := by decide +kernel
theorem d_K_cut_125 : decode prog_7_method_21_code 125 = .ok (.iinc 2 1, 3) := by decide +kernel
theorem d_K_cut_128 : decode prog_7_method_21_code 128 = .ok (.goto (-56), 3) := by decide +kernel
theorem d_K_cut_131 : decode prog_7_method_21_code 131 = .ok (.iconst (-1), 1) := by decide +kernel
theorem d_K_cut_132 : decode prog_7_method_21_code 132 = .ok (.ireturn, 1) := by decide +kernel
theorem d_K_isEnough_0 : decode prog_7_method_22_code 0 = .ok (.aload_n 0, 1) := by decide +kernel
theorem d_K_isEnough_1 : decode prog_7_method_22_code 1 = .ok (.iload_n 1, 1) := by decide +kernel
theorem d_K_isEnough_2 : decode prog_7_method_22_code 2 = .ok (.invokevirtual 112, 3) := by decide +kernel
theorem d_K_isEnough_5 : decode prog_7_method_22_code 5 = .ok (.aload_n 0, 1) := by decide +kernel
theorem d_K_isEnough_6 : decode prog_7_method_22_code 6 = .ok (.invokevirtual 116, 3) := by decide +kernel
theorem d_K_isEnough_9 : decode prog_7_method_22_code 9 = .ok (.iload_n 2, 1) := by decide +kernel
theorem d_K_isEnough_10 : decode prog_7_method_22_code 10 = .ok (.if_icmp .gt 7, 3) := by decide +kernel
theorem d_K_isEnough_13 : decode prog_7_method_22_code 13 = .ok (.iconst 1, 1) := by decide +kernel
theorem d_K_isEnough_14 : decode prog_7_method_22_code 14 = .ok (.goto 4, 3) := by decide +kernel
theorem d_K_isEnough_17 : decode prog_7_method_22_code 17 = .ok (.iconst 0, 1) := by decide +kernel
theorem d_K_isEnough_18 : decode prog_7_method_22_code 18 = .ok (.ireturn, 1) := by decide +kernel
theorem d_K_costOf_0 : decode prog_7_method_23_code 0 = .ok (.aload_n 0, 1) := by decide +kernel
theorem d_K_costOf_1 : decode prog_7_method_23_code 1 = .ok (.iconst 0, 1) := by decide +kernel
theorem d_K_costOf_2 : decode prog_7_method_23_code 2 = .ok (.putfield 69, 3) := by decide +kernel
theorem d_K_costOf_5 : decode prog_7_method_23_code 5 = .ok (.aload_n 0, 1) := by decide +kernel
theorem d_K_costOf_6 : decode prog_7_method_23_code 6 = .ok (.invokevirtual 90, 3) := by decide +kernel
theorem d_K_costOf_9 : decode prog_7_method_23_code 9 = .ok (.ifCond .eq 18, 3) := by decide +kernel
theorem d_K_costOf_12 : decode prog_7_method_23_code 12 = .ok (.iload_n 1, 1) := by decide +kernel
theorem d_K_costOf_13 : decode prog_7_method_23_code 13 = .ok (.ifCond .lt 14, 3) := by decide +kernel
theorem d_K_costOf_16 : decode prog_7_method_23_code 16 = .ok (.iload_n 1, 1) := by decide +kernel
theorem d_K_costOf_17 : decode prog_7_method_23_code 17 = .ok (.aload_n 0, 1) := by decide +kernel
theorem d_K_costOf_18 : decode prog_7_method_23_code 18 = .ok (.getfield 87, 3) := by decide +kernel
theorem d_K_costOf_21 : decode prog_7_method_23_code 21 = .ok (.iconst (-1), 1) := by decide +kernel
theorem d_K_costOf_22 : decode prog_7_method_23_code 22 = .ok (.ixor, 1) := by decide +kernel
theorem d_K_costOf_23 : decode prog_7_method_23_code 23 = .ok (.iand, 1) := by decide +kernel
theorem d_K_costOf_24 : decode prog_7_method_23_code 24 = .ok (.ifCond .eq 5, 3) := by decide +kernel
theorem d_K_costOf_27 : decode prog_7_method_23_code 27 = .ok (.iconst (-1), 1) := by decide +kernel
theorem d_K_costOf_28 : decode prog_7_method_23_code 28 = .ok (.ireturn, 1) := by decide +kernel
theorem d_K_costOf_29 : decode prog_7_method_23_code 29 = .ok (.aload_n 0, 1) := by decide +kernel
theorem d_K_costOf_30 : decode prog_7_method_23_code 30 = .ok (.iload_n 1, 1) := by decide +kernel
theorem d_K_costOf_31 : decode prog_7_method_23_code 31 = .ok (.invokevirtual 112, 3) := by decide +kernel
theorem d_K_costOf_34 : decode prog_7_method_23_code 34 = .ok (.aload_n 0, 1) := by decide +kernel
theorem d_K_costOf_35 : decode prog_7_method_23_code 35 = .ok (.getfield 28, 3) := by decide +kernel
theorem d_K_costOf_38 : decode prog_7_method_23_code 38 = .ok (.aload_n 0, 1) := by decide +kernel
theorem d_K_costOf_39 : decode prog_7_method_23_code 39 = .ok (.invokevirtual 98, 3) := by decide +kernel
theorem d_K_costOf_42 : decode prog_7_method_23_code 42 = .ok (.iaload, 1) := by decide +kernel
theorem d_K_costOf_43 : decode prog_7_method_23_code 43 = .ok (.iload_n 1, 1) := by decide +kernel
theorem d_K_costOf_44 : decode prog_7_method_23_code 44 = .ok (.invokestatic 94, 3) := by decide +kernel
theorem d_K_costOf_47 : decode prog_7_method_23_code 47 = .ok (.ishl, 1) := by decide +kernel
theorem d_K_costOf_48 : decode prog_7_method_23_code 48 = .ok (.ireturn, 1) := by decide +kernel
theorem d_K_greedy_0 : decode prog_7_method_26_code 0 = .ok (.aload_n 0, 1) := by decide +kernel
theorem d_K_greedy_1 : decode prog_7_method_26_code 1 = .ok (.iconst 0, 1) := by decide +kernel
theorem d_K_greedy_2 : decode prog_7_method_26_code 2 = .ok (.putfield 69, 3) := by decide +kernel
theorem d_K_greedy_5 : decode prog_7_method_26_code 5 = .ok (.aload_n 0, 1) := by decide +kernel
theorem d_K_greedy_6 : decode prog_7_method_26_code 6 = .ok (.invokevirtual 90, 3) := by decide +kernel
theorem d_K_greedy_9 : decode prog_7_method_26_code 9 = .ok (.ifCond .ne 5, 3) := by decide +kernel
theorem d_K_greedy_12 : decode prog_7_method_26_code 12 = .ok (.iconst (-1), 1) := by decide +kernel
theorem d_K_greedy_13 : decode prog_7_method_26_code 13 = .ok (.ireturn, 1) := by decide +kernel
theorem d_K_greedy_14 : decode prog_7_method_26_code 14 = .ok (.aload_n 0, 1) := by decide +kernel
theorem d_K_greedy_15 : decode prog_7_method_26_code 15 = .ok (.iconst 0, 1) := by decide +kernel
theorem d_K_greedy_16 : decode prog_7_method_26_code 16 = .ok (.putfield 129, 3) := by decide +kernel
theorem d_K_greedy_19 : decode prog_7_method_26_code 19 = .ok (.aload_n 0, 1) := by decide +kernel
theorem d_K_greedy_20 : decode prog_7_method_26_code 20 = .ok (.iconst 0, 1) := by decide +kernel
theorem d_K_greedy_21 : decode prog_7_method_26_code 21 = .ok (.putfield 126, 3) := by decide +kernel
theorem d_K_greedy_24 : decode prog_7_method_26_code 24 = .ok (.iconst 0, 1) := by decide +kernel
theorem d_K_greedy_25 : decode prog_7_method_26_code 25 = .ok (.istore_n 2, 1) := by decide +kernel
theorem d_K_greedy_26 : decode prog_7_method_26_code 26 = .ok (.iload_n 2, 1) := by decide +kernel
theorem d_K_greedy_27 : decode prog_7_method_26_code 27 = .ok (.aload_n 0, 1) := by decide +kernel
theorem d_K_greedy_28 : decode prog_7_method_26_code 28 = .ok (.getfield 73, 3) := by decide +kernel
theorem d_K_greedy_31 : decode prog_7_method_26_code 31 = .ok (.if_icmp .ge 28, 3) := by decide +kernel
theorem d_K_greedy_34 : decode prog_7_method_26_code 34 = .ok (.aload_n 0, 1) := by decide +kernel
theorem d_K_greedy_35 : decode prog_7_method_26_code 35 = .ok (.getfield 40, 3) := by decide +kernel
theorem d_K_greedy_38 : decode prog_7_method_26_code 38 = .ok (.iload_n 2, 1) := by decide +kernel
theorem d_K_greedy_39 : decode prog_7_method_26_code 39 = .ok (.aload_n 0, 1) := by decide +kernel
theorem d_K_greedy_40 : decode prog_7_method_26_code 40 = .ok (.getfield 22, 3) := by decide +kernel
theorem d_K_greedy_43 : decode prog_7_method_26_code 43 = .ok (.iload_n 2, 1) := by decide +kernel
theorem d_K_greedy_44 : decode prog_7_method_26_code 44 = .ok (.iaload, 1) := by decide +kernel
theorem d_K_greedy_45 : decode prog_7_method_26_code 45 = .ok (.iastore, 1) := by decide +kernel
theorem d_K_greedy_46 : decode prog_7_method_26_code 46 = .ok (.aload_n 0, 1) := by decide +kernel
theorem d_K_greedy_47 : decode prog_7_method_26_code 47 = .ok (.getfield 43, 3) := by decide +kernel
theorem d_K_greedy_50 : decode prog_7_method_26_code 50 = .ok (.iload_n 2, 1) := by decide +kernel
theorem d_K_greedy_51 : decode prog_7_method_26_code 51 = .ok (.iconst 0, 1) := by decide +kernel
theorem d_K_greedy_52 : decode prog_7_method_26_code 52 = .ok (.bastore, 1) := by decide +kernel
theorem d_K_greedy_53 : decode prog_7_method_26_code 53 = .ok (.iinc 2 1, 3) := by decide +kernel
theorem d_K_greedy_56 : decode prog_7_method_26_code 56 = .ok (.goto (-30), 3) := by decide +kernel
theorem d_K_greedy_59 : decode prog_7_method_26_code 59 = .ok (.aload_n 0, 1) := by decide +kernel
theorem d_K_greedy_60 : decode prog_7_method_26_code 60 = .ok (.getfield 73, 3) := by decide +kernel
theorem d_K_greedy_63 : decode prog_7_method_26_code 63 = .ok (.istore_n 2, 1) := by decide +kernel
theorem d_K_greedy_64 : decode prog_7_method_26_code 64 = .ok (.iload_n 2, 1) := by decide +kernel
theorem d_K_greedy_65 : decode prog_7_method_26_code 65 = .ok (.iconst 2, 1) := by decide +kernel
theorem d_K_greedy_66 : decode prog_7_method_26_code 66 = .ok (.aload_n 0, 1) := by decide +kernel
theorem d_K_greedy_67 : decode prog_7_method_26_code 67 = .ok (.getfield 73, 3) := by decide +kernel
theorem d_K_greedy_70 : decode prog_7_method_26_code 70 = .ok (.imul, 1) := by decide +kernel
theorem d_K_greedy_71 : decode prog_7_method_26_code 71 = .ok (.iconst 1, 1) := by decide +kernel
theorem d_K_greedy_72 : decode prog_7_method_26_code 72 = .ok (.isub, 1) := by decide +kernel
theorem d_K_greedy_73 : decode prog_7_method_26_code 73 = .ok (.if_icmp .ge 14, 3) := by decide +kernel
theorem d_K_greedy_76 : decode prog_7_method_26_code 76 = .ok (.aload_n 0, 1) := by decide +kernel
theorem d_K_greedy_77 : decode prog_7_method_26_code 77 = .ok (.iload_n 2, 1) := by decide +kernel
theorem d_K_greedy_78 : decode prog_7_method_26_code 78 = .ok (.invokevirtual 132, 3) := by decide +kernel
theorem d_K_greedy_81 : decode prog_7_method_26_code 81 = .ok (.iinc 2 1, 3) := by decide +kernel
theorem d_K_greedy_84 : decode prog_7_method_26_code 84 = .ok (.goto (-20), 3) := by decide +kernel
theorem d_K_greedy_87 : decode prog_7_method_26_code 87 = .ok (.iload_n 1, 1) := by decide +kernel
theorem d_K_greedy_88 : decode prog_7_method_26_code 88 = .ok (.iconst (-1), 1) := by decide +kernel
theorem d_K_greedy_89 : decode prog_7_method_26_code 89 = .ok (.if_icmp .ne 8, 3) := by decide +kernel
theorem d_K_greedy_92 : decode prog_7_method_26_code 92 = .ok (.aload_n 0, 1) := by decide +kernel
theorem d_K_greedy_93 : decode prog_7_method_26_code 93 = .ok (.getfield 126, 3) := by decide +kernel
theorem d_K_greedy_96 : decode prog_7_method_26_code 96 = .ok (.ireturn, 1) := by decide +kernel
theorem d_K_greedy_97 : decode prog_7_method_26_code 97 = .ok (.iload_n 1, 1) := by decide +kernel
theorem d_K_greedy_98 : decode prog_7_method_26_code 98 = .ok (.ifCond .lt 18, 3) := by decide +kernel
theorem d_K_greedy_101 : decode prog_7_method_26_code 101 = .ok (.iload_n 1, 1) := by decide +kernel
theorem d_K_greedy_102 : decode prog_7_method_26_code 102 = .ok (.aload_n 0, 1) := by decide +kernel
theorem d_K_greedy_103 : decode prog_7_method_26_code 103 = .ok (.getfield 129, 3) := by decide +kernel
theorem d_K_greedy_106 : decode prog_7_method_26_code 106 = .ok (.if_icmp .ge 10, 3) := by decide +kernel
theorem d_K_greedy_109 : decode prog_7_method_26_code 109 = .ok (.aload_n 0, 1) := by decide +kernel
theorem d_K_greedy_110 : decode prog_7_method_26_code 110 = .ok (.getfield 47, 3) := by decide +kernel
theorem d_K_greedy_113 : decode prog_7_method_26_code 113 = .ok (.iload_n 1, 1) := by decide +kernel
theorem d_K_greedy_114 : decode prog_7_method_26_code 114 = .ok (.iaload, 1) := by decide +kernel
theorem d_K_greedy_115 : decode prog_7_method_26_code 115 = .ok (.ireturn, 1) := by decide +kernel
theorem d_K_greedy_116 : decode prog_7_method_26_code 116 = .ok (.iload_n 1, 1) := by decide +kernel
theorem d_K_greedy_117 : decode prog_7_method_26_code 117 = .ok (.bipush 100, 2) := by decide +kernel
theorem d_K_greedy_119 : decode prog_7_method_26_code 119 = .ok (.if_icmp .lt 26, 3) := by decide +kernel
theorem d_K_greedy_122 : decode prog_7_method_26_code 122 = .ok (.iload_n 1, 1) := by decide +kernel
theorem d_K_greedy_123 : decode prog_7_method_26_code 123 = .ok (.bipush 100, 2) := by decide +kernel
theorem d_K_greedy_125 : decode prog_7_method_26_code 125 = .ok (.aload_n 0, 1) := by decide +kernel
theorem d_K_greedy_126 : decode prog_7_method_26_code 126 = .ok (.getfield 129, 3) := by decide +kernel
theorem d_K_greedy_129 : decode prog_7_method_26_code 129 = .ok (.iadd, 1) := by decide +kernel
theorem d_K_greedy_130 : decode prog_7_method_26_code 130 = .ok (.if_icmp .ge 15, 3) := by decide +kernel
theorem d_K_greedy_133 : decode prog_7_method_26_code 133 = .ok (.aload_n 0, 1) := by decide +kernel
theorem d_K_greedy_134 : decode prog_7_method_26_code 134 = .ok (.getfield 50, 3) := by decide +kernel
theorem d_K_greedy_137 : decode prog_7_method_26_code 137 = .ok (.iload_n 1, 1) := by decide +kernel
theorem d_K_greedy_138 : decode prog_7_method_26_code 138 = .ok (.bipush 100, 2) := by decide +kernel
theorem d_K_greedy_140 : decode prog_7_method_26_code 140 = .ok (.isub, 1) := by decide +kernel
theorem d_K_greedy_141 : decode prog_7_method_26_code 141 = .ok (.iaload, 1) := by decide +kernel
theorem d_K_greedy_142 : decode prog_7_method_26_code 142 = .ok (.goto 4, 3) := by decide +kernel
theorem d_K_greedy_145 : decode prog_7_method_26_code 145 = .ok (.iconst (-1), 1) := by decide +kernel
theorem d_K_greedy_146 : decode prog_7_method_26_code 146 = .ok (.ireturn, 1) := by decide +kernel
theorem d_K_join_0 : decode prog_7_method_25_code 0 = .ok (.iconst (-1), 1) := by decide +kernel
theorem d_K_join_1 : decode prog_7_method_25_code 1 = .ok (.istore_n 2, 1) := by decide +kernel
theorem d_K_join_2 : decode prog_7_method_25_code 2 = .ok (.iconst (-1), 1) := by decide +kernel
theorem d_K_join_3 : decode prog_7_method_25_code 3 = .ok (.istore_n 3, 1) := by decide +kernel
theorem d_K_join_4 : decode prog_7_method_25_code 4 = .ok (.iconst 0, 1) := by decide +kernel
theorem d_K_join_5 : decode prog_7_method_25_code 5 = .ok (.istore 4, 2) := by decide +kernel
theorem d_K_join_7 : decode prog_7_method_25_code 7 = .ok (.iload 4, 2) := by decide +kernel
theorem d_K_join_9 : decode prog_7_method_25_code 9 = .ok (.iload_n 1, 1) := by decide +kernel
theorem d_K_join_10 : decode prog_7_method_25_code 10 = .ok (.if_icmp .ge 78, 3) := by decide +kernel
theorem d_K_join_13 : decode prog_7_method_25_code 13 = .ok (.iload 4, 2) := by decide +kernel
theorem d_K_join_15 : decode prog_7_method_25_code 15 = .ok (.iconst 1, 1) := by decide +kernel
theorem d_K_join_16 : decode prog_7_method_25_code 16 = .ok (.iadd, 1) := by decide +kernel
theorem d_K_join_17 : decode prog_7_method_25_code 17 = .ok (.istore 5, 2) := by decide +kernel
theorem d_K_join_19 : decode prog_7_method_25_code 19 = .ok (.iload 5, 2) := by decide +kernel
theorem d_K_join_21 : decode prog_7_method_25_code 21 = .ok (.iload_n 1, 1) := by decide +kernel
theorem d_K_join_22 : decode prog_7_method_25_code 22 = .ok (.if_icmp .ge 60, 3) := by decide +kernel
theorem d_K_join_25 : decode prog_7_method_25_code 25 = .ok (.aload_n 0, 1) := by decide +kernel
theorem d_K_join_26 : decode prog_7_method_25_code 26 = .ok (.getfield 43, 3) := by decide +kernel
theorem d_K_join_29 : decode prog_7_method_25_code 29 = .ok (.iload 4, 2) := by decide +kernel
theorem d_K_join_31 : decode prog_7_method_25_code 31 = .ok (.baload, 1) := by decide +kernel
theorem d_K_join_32 : decode prog_7_method_25_code 32 = .ok (.ifCond .ne 44, 3) := by decide +kernel
theorem d_K_join_35 : decode prog_7_method_25_code 35 = .ok (.aload_n 0, 1) := by decide +kernel
theorem d_K_join_36 : decode prog_7_method_25_code 36 = .ok (.getfield 43, 3) := by decide +kernel
theorem d_K_join_39 : decode prog_7_method_25_code 39 = .ok (.iload 5, 2) := by decide +kernel
theorem d_K_join_41 : decode prog_7_method_25_code 41 = .ok (.baload, 1) := by decide +kernel
theorem d_K_join_42 : decode prog_7_method_25_code 42 = .ok (.ifCond .ne 34, 3) := by decide +kernel
theorem d_K_join_45 : decode prog_7_method_25_code 45 = .ok (.iload_n 2, 1) := by decide +kernel
theorem d_K_join_46 : decode prog_7_method_25_code 46 = .ok (.iconst (-1), 1) := by decide +kernel
theorem d_K_join_47 : decode prog_7_method_25_code 47 = .ok (.if_icmp .eq 23, 3) := by decide +kernel
theorem d_K_join_50 : decode prog_7_method_25_code 50 = .ok (.aload_n 0, 1) := by decide +kernel
theorem d_K_join_51 : decode prog_7_method_25_code 51 = .ok (.iload 4, 2) := by decide +kernel
theorem d_K_join_53 : decode prog_7_method_25_code 53 = .ok (.iload 5, 2) := by decide +kernel
theorem d_K_join_55 : decode prog_7_method_25_code 55 = .ok (.invokevirtual 122, 3) := by decide +kernel
theorem d_K_join_58 : decode prog_7_method_25_code 58 = .ok (.aload_n 0, 1) := by decide +kernel
theorem d_K_join_59 : decode prog_7_method_25_code 59 = .ok (.iload_n 2, 1) := by decide +kernel
theorem d_K_join_60 : decode prog_7_method_25_code 60 = .ok (.iload_n 3, 1) := by decide +kernel
theorem d_K_join_61 : decode prog_7_method_25_code 61 = .ok (.invokevirtual 122, 3) := by decide +kernel
theorem d_K_join_64 : decode prog_7_method_25_code 64 = .ok (.if_icmp .lt 6, 3) := by decide +kernel
theorem d_K_join_67 : decode prog_7_method_25_code 67 = .ok (.goto 9, 3) := by decide +kernel
theorem d_K_join_70 : decode prog_7_method_25_code 70 = .ok (.iload 4, 2) := by decide +kernel
theorem d_K_join_72 : decode prog_7_method_25_code 72 = .ok (.istore_n 2, 1) := by decide +kernel
theorem d_K_join_73 : decode prog_7_method_25_code 73 = .ok (.iload 5, 2) := by decide +kernel
theorem d_K_join_75 : decode prog_7_method_25_code 75 = .ok (.istore_n 3, 1) := by decide +kernel
theorem d_K_join_76 : decode prog_7_method_25_code 76 = .ok (.iinc 5 1, 3) := by decide +kernel
theorem d_K_join_79 : decode prog_7_method_25_code 79 = .ok (.goto (-60), 3) := by decide +kernel
theorem d_K_join_82 : decode prog_7_method_25_code 82 = .ok (.iinc 4 1, 3) := by decide +kernel
theorem d_K_join_85 : decode prog_7_method_25_code 85 = .ok (.goto (-78), 3) := by decide +kernel
theorem d_K_join_88 : decode prog_7_method_25_code 88 = .ok (.aload_n 0, 1) := by decide +kernel
theorem d_K_join_89 : decode prog_7_method_25_code 89 = .ok (.dup, 1) := by decide +kernel
theorem d_K_join_90 : decode prog_7_method_25_code 90 = .ok (.getfield 126, 3) := by decide +kernel
theorem d_K_join_93 : decode prog_7_method_25_code 93 = .ok (.iconst 1, 1) := by decide +kernel
theorem d_K_join_94 : decode prog_7_method_25_code 94 = .ok (.aload_n 0, 1) := by decide +kernel
theorem d_K_join_95 : decode prog_7_method_25_code 95 = .ok (.getfield 40, 3) := by decide +kernel
theorem d_K_join_98 : decode prog_7_method_25_code 98 = .ok (.iload_n 2, 1) := by decide +kernel
theorem d_K_join_99 : decode prog_7_method_25_code 99 = .ok (.iaload, 1) := by decide +kernel
theorem d_K_join_100 : decode prog_7_method_25_code 100 = .ok (.aload_n 0, 1) := by decide +kernel
theorem d_K_join_101 : decode prog_7_method_25_code 101 = .ok (.getfield 40, 3) := by decide +kernel
theorem d_K_join_104 : decode prog_7_method_25_code 104 = .ok (.iload_n 3, 1) := by decide +kernel
theorem d_K_join_105 : decode prog_7_method_25_code 105 = .ok (.iaload, 1) := by decide +kernel
theorem d_K_join_106 : decode prog_7_method_25_code 106 = .ok (.ior, 1) := by decide +kernel
theorem d_K_join_107 : decode prog_7_method_25_code 107 = .ok (.invokestatic 94, 3) := by decide +kernel
theorem d_K_join_110 : decode prog_7_method_25_code 110 = .ok (.ishl, 1) := by decide +kernel
theorem d_K_join_111 : decode prog_7_method_25_code 111 = .ok (.iadd, 1) := by decide +kernel
theorem d_K_join_112 : decode prog_7_method_25_code 112 = .ok (.putfield 126, 3) := by decide +kernel
theorem d_K_join_115 : decode prog_7_method_25_code 115 = .ok (.aload_n 0, 1) := by decide +kernel
theorem d_K_join_116 : decode prog_7_method_25_code 116 = .ok (.getfield 40, 3) := by decide +kernel
theorem d_K_join_119 : decode prog_7_method_25_code 119 = .ok (.iload_n 1, 1) := by decide +kernel
theorem d_K_join_120 : decode prog_7_method_25_code 120 = .ok (.aload_n 0, 1) := by decide +kernel
theorem d_K_join_121 : decode prog_7_method_25_code 121 = .ok (.getfield 40, 3) := by decide +kernel
theorem d_K_join_124 : decode prog_7_method_25_code 124 = .ok (.iload_n 2, 1) := by decide +kernel
theorem d_K_join_125 : decode prog_7_method_25_code 125 = .ok (.iaload, 1) := by decide +kernel
theorem d_K_join_126 : decode prog_7_method_25_code 126 = .ok (.aload_n 0, 1) := by decide +kernel
theorem d_K_join_127 : decode prog_7_method_25_code 127 = .ok (.getfield 40, 3) := by decide +kernel
theorem d_K_join_130 : decode prog_7_method_25_code 130 = .ok (.iload_n 3, 1) := by decide +kernel
theorem d_K_join_131 : decode prog_7_method_25_code 131 = .ok (.iaload, 1) := by decide +kernel
theorem d_K_join_132 : decode prog_7_method_25_code 132 = .ok (.ixor, 1) := by decide +kernel
theorem d_K_join_133 : decode prog_7_method_25_code 133 = .ok (.iastore, 1) := by decide +kernel
theorem d_K_join_134 : decode prog_7_method_25_code 134 = .ok (.aload_n 0, 1) := by decide +kernel
theorem d_K_join_135 : decode prog_7_method_25_code 135 = .ok (.getfield 43, 3) := by decide +kernel
theorem d_K_join_138 : decode prog_7_method_25_code 138 = .ok (.iload_n 2, 1) := by decide +kernel
theorem d_K_join_139 : decode prog_7_method_25_code 139 = .ok (.iconst 1, 1) := by decide +kernel
theorem d_K_join_140 : decode prog_7_method_25_code 140 = .ok (.bastore, 1) := by decide +kernel
theorem d_K_join_141 : decode prog_7_method_25_code 141 = .ok (.aload_n 0, 1) := by decide +kernel
theorem d_K_join_142 : decode prog_7_method_25_code 142 = .ok (.getfield 43, 3) := by decide +kernel
theorem d_K_join_145 : decode prog_7_method_25_code 145 = .ok (.iload_n 3, 1) := by decide +kernel
theorem d_K_join_146 : decode prog_7_method_25_code 146 = .ok (.iconst 1, 1) := by decide +kernel
theorem d_K_join_147 : decode prog_7_method_25_code 147 = .ok (.bastore, 1) := by decide +kernel
theorem d_K_join_148 : decode prog_7_method_25_code 148 = .ok (.aload_n 0, 1) := by decide +kernel
theorem d_K_join_149 : decode prog_7_method_25_code 149 = .ok (.getfield 43, 3) := by decide +kernel
theorem d_K_join_152 : decode prog_7_method_25_code 152 = .ok (.iload_n 1, 1) := by decide +kernel
theorem d_K_join_153 : decode prog_7_method_25_code 153 = .ok (.iconst 0, 1) := by decide +kernel
theorem d_K_join_154 : decode prog_7_method_25_code 154 = .ok (.bastore, 1) := by decide +kernel
theorem d_K_join_155 : decode prog_7_method_25_code 155 = .ok (.aload_n 0, 1) := by decide +kernel
theorem d_K_join_156 : decode prog_7_method_25_code 156 = .ok (.getfield 47, 3) := by decide +kernel
theorem d_K_join_159 : decode prog_7_method_25_code 159 = .ok (.aload_n 0, 1) := by decide +kernel
theorem d_K_join_160 : decode prog_7_method_25_code 160 = .ok (.getfield 129, 3) := by decide +kernel
theorem d_K_join_163 : decode prog_7_method_25_code 163 = .ok (.iload_n 2, 1) := by decide +kernel
theorem d_K_join_164 : decode prog_7_method_25_code 164 = .ok (.iastore, 1) := by decide +kernel
theorem d_K_join_165 : decode prog_7_method_25_code 165 = .ok (.aload_n 0, 1) := by decide +kernel
theorem d_K_join_166 : decode prog_7_method_25_code 166 = .ok (.getfield 50, 3) := by decide +kernel
theorem d_K_join_169 : decode prog_7_method_25_code 169 = .ok (.aload_n 0, 1) := by decide +kernel
theorem d_K_join_170 : decode prog_7_method_25_code 170 = .ok (.getfield 129, 3) := by decide +kernel
theorem d_K_join_173 : decode prog_7_method_25_code 173 = .ok (.iload_n 3, 1) := by decide +kernel
theorem d_K_join_174 : decode prog_7_method_25_code 174 = .ok (.iastore, 1) := by decide +kernel
theorem d_K_join_175 : decode prog_7_method_25_code 175 = .ok (.aload_n 0, 1) := by decide +kernel
theorem d_K_join_176 : decode prog_7_method_25_code 176 = .ok (.dup, 1) := by decide +kernel
theorem d_K_join_177 : decode prog_7_method_25_code 177 = .ok (.getfield 129, 3) := by decide +kernel
theorem d_K_join_180 : decode prog_7_method_25_code 180 = .ok (.iconst 1, 1) := by decide +kernel
theorem d_K_join_181 : decode prog_7_method_25_code 181 = .ok (.iadd, 1) := by decide +kernel
theorem d_K_join_182 : decode prog_7_method_25_code 182 = .ok (.putfield 129, 3) := by decide +kernel
theorem d_K_join_185 : decode prog_7_method_25_code 185 = .ok (.return_, 1) := by decide +kernel
theorem d_K_gain_0 : decode prog_7_method_24_code 0 = .ok (.iconst 1, 1) := by decide +kernel
theorem d_K_gain_1 : decode prog_7_method_24_code 1 = .ok (.aload_n 0, 1) := by decide +kernel
theorem d_K_gain_2 : decode prog_7_method_24_code 2 = .ok (.getfield 40, 3) := by decide +kernel
theorem d_K_gain_5 : decode prog_7_method_24_code 5 = .ok (.iload_n 1, 1) := by decide +kernel
theorem d_K_gain_6 : decode prog_7_method_24_code 6 = .ok (.iaload, 1) := by decide +kernel
theorem d_K_gain_7 : decode prog_7_method_24_code 7 = .ok (.aload_n 0, 1) := by decide +kernel
theorem d_K_gain_8 : decode prog_7_method_24_code 8 = .ok (.getfield 40, 3) := by decide +kernel
theorem d_K_gain_11 : decode prog_7_method_24_code 11 = .ok (.iload_n 2, 1) := by decide +kernel
theorem d_K_gain_12 : decode prog_7_method_24_code 12 = .ok (.iaload, 1) := by decide +kernel
theorem d_K_gain_13 : decode prog_7_method_24_code 13 = .ok (.ixor, 1) := by decide +kernel
theorem d_K_gain_14 : decode prog_7_method_24_code 14 = .ok (.invokestatic 94, 3) := by decide +kernel
theorem d_K_gain_17 : decode prog_7_method_24_code 17 = .ok (.ishl, 1) := by decide +kernel
theorem d_K_gain_18 : decode prog_7_method_24_code 18 = .ok (.iconst 1, 1) := by decide +kernel
theorem d_K_gain_19 : decode prog_7_method_24_code 19 = .ok (.aload_n 0, 1) := by decide +kernel
theorem d_K_gain_20 : decode prog_7_method_24_code 20 = .ok (.getfield 40, 3) := by decide +kernel
theorem d_K_gain_23 : decode prog_7_method_24_code 23 = .ok (.iload_n 1, 1) := by decide +kernel
theorem d_K_gain_24 : decode prog_7_method_24_code 24 = .ok (.iaload, 1) := by decide +kernel
theorem d_K_gain_25 : decode prog_7_method_24_code 25 = .ok (.invokestatic 94, 3) := by decide +kernel
theorem d_K_gain_28 : decode prog_7_method_24_code 28 = .ok (.ishl, 1) := by decide +kernel
theorem d_K_gain_29 : decode prog_7_method_24_code 29 = .ok (.isub, 1) := by decide +kernel
theorem d_K_gain_30 : decode prog_7_method_24_code 30 = .ok (.iconst 1, 1) := by decide +kernel
theorem d_K_gain_31 : decode prog_7_method_24_code 31 = .ok (.aload_n 0, 1) := by decide +kernel
theorem d_K_gain_32 : decode prog_7_method_24_code 32 = .ok (.getfield 40, 3) := by decide +kernel
theorem d_K_gain_35 : decode prog_7_method_24_code 35 = .ok (.iload_n 2, 1) := by decide +kernel
theorem d_K_gain_36 : decode prog_7_method_24_code 36 = .ok (.iaload, 1) := by decide +kernel
theorem d_K_gain_37 : decode prog_7_method_24_code 37 = .ok (.invokestatic 94, 3) := by decide +kernel
theorem d_K_gain_40 : decode prog_7_method_24_code 40 = .ok (.ishl, 1) := by decide +kernel
theorem d_K_gain_41 : decode prog_7_method_24_code 41 = .ok (.isub, 1) := by decide +kernel
theorem d_K_gain_42 : decode prog_7_method_24_code 42 = .ok (.ireturn, 1) := by decide +kernel
theorem d_K_value_0 : decode prog_7_method_32_code 0 = .ok (.aload_n 0, 1) := by decide +kernel
theorem d_K_value_1 : decode prog_7_method_32_code 1 = .ok (.iconst (-1), 1) := by decide +kernel
theorem d_K_value_2 : decode prog_7_method_32_code 2 = .ok (.putfield 141, 3) := by decide +kernel
theorem d_K_value_5 : decode prog_7_method_32_code 5 = .ok (.aload_n 0, 1) := by decide +kernel
theorem d_K_value_6 : decode prog_7_method_32_code 6 = .ok (.iconst 1, 1) := by decide +kernel
theorem d_K_value_7 : decode prog_7_method_32_code 7 = .ok (.iload_n 1, 1) := by decide +kernel
theorem d_K_value_8 : decode prog_7_method_32_code 8 = .ok (.iload_n 2, 1) := by decide +kernel
theorem d_K_value_9 : decode prog_7_method_32_code 9 = .ok (.invokevirtual 167, 3) := by decide +kernel
theorem d_K_value_12 : decode prog_7_method_32_code 12 = .ok (.lreturn, 1) := by decide +kernel
theorem d_K_tell_0 : decode prog_7_method_31_code 0 = .ok (.iload_n 1, 1) := by decide +kernel
theorem d_K_tell_1 : decode prog_7_method_31_code 1 = .ok (.ifCond .eq 35, 3) := by decide +kernel
theorem d_K_tell_4 : decode prog_7_method_31_code 4 = .ok (.aload_n 0, 1) := by decide +kernel
theorem d_K_tell_5 : decode prog_7_method_31_code 5 = .ok (.invokevirtual 90, 3) := by decide +kernel
theorem d_K_tell_8 : decode prog_7_method_31_code 8 = .ok (.ifCond .eq 28, 3) := by decide +kernel
theorem d_K_tell_11 : decode prog_7_method_31_code 11 = .ok (.iload_n 3, 1) := by decide +kernel
theorem d_K_tell_12 : decode prog_7_method_31_code 12 = .ok (.ifCond .lt 24, 3) := by decide +kernel
theorem d_K_tell_15 : decode prog_7_method_31_code 15 = .ok (.iload_n 3, 1) := by decide +kernel
theorem d_K_tell_16 : decode prog_7_method_31_code 16 = .ok (.iconst 1, 1) := by decide +kernel
theorem d_K_tell_17 : decode prog_7_method_31_code 17 = .ok (.if_icmp .gt 19, 3) := by decide +kernel
theorem d_K_tell_20 : decode prog_7_method_31_code 20 = .ok (.iload_n 2, 1) := by decide +kernel
theorem d_K_tell_21 : decode prog_7_method_31_code 21 = .ok (.ifCond .lt 15, 3) := by decide +kernel
theorem d_K_tell_24 : decode prog_7_method_31_code 24 = .ok (.iload_n 2, 1) := by decide +kernel
theorem d_K_tell_25 : decode prog_7_method_31_code 25 = .ok (.aload_n 0, 1) := by decide +kernel
theorem d_K_tell_26 : decode prog_7_method_31_code 26 = .ok (.getfield 84, 3) := by decide +kernel
theorem d_K_tell_29 : decode prog_7_method_31_code 29 = .ok (.invokestatic 94, 3) := by decide +kernel
theorem d_K_tell_32 : decode prog_7_method_31_code 32 = .ok (.iushr, 1) := by decide +kernel
theorem d_K_tell_33 : decode prog_7_method_31_code 33 = .ok (.ifCond .eq 9, 3) := by decide +kernel
theorem d_K_tell_36 : decode prog_7_method_31_code 36 = .ok (.aload_n 0, 1) := by decide +kernel
theorem d_K_tell_37 : decode prog_7_method_31_code 37 = .ok (.iconst 1, 1) := by decide +kernel
theorem d_K_tell_38 : decode prog_7_method_31_code 38 = .ok (.invokevirtual 160, 3) := by decide +kernel
theorem d_K_tell_41 : decode prog_7_method_31_code 41 = .ok (.lreturn, 1) := by decide +kernel
theorem d_K_tell_42 : decode prog_7_method_31_code 42 = .ok (.aload_n 0, 1) := by decide +kernel
theorem d_K_tell_43 : decode prog_7_method_31_code 43 = .ok (.iconst 0, 1) := by decide +kernel
theorem d_K_tell_44 : decode prog_7_method_31_code 44 = .ok (.invokevirtual 112, 3) := by decide +kernel
theorem d_K_tell_47 : decode prog_7_method_31_code 47 = .ok (.aload_n 0, 1) := by decide +kernel
theorem d_K_tell_48 : decode prog_7_method_31_code 48 = .ok (.invokevirtual 116, 3) := by decide +kernel
theorem d_K_tell_51 : decode prog_7_method_31_code 51 = .ok (.bipush 12, 2) := by decide +kernel
theorem d_K_tell_53 : decode prog_7_method_31_code 53 = .ok (.if_icmp .le 9, 3) := by decide +kernel
theorem d_K_tell_56 : decode prog_7_method_31_code 56 = .ok (.aload_n 0, 1) := by decide +kernel
theorem d_K_tell_57 : decode prog_7_method_31_code 57 = .ok (.iconst 2, 1) := by decide +kernel
theorem d_K_tell_58 : decode prog_7_method_31_code 58 = .ok (.invokevirtual 160, 3) := by decide +kernel
theorem d_K_tell_61 : decode prog_7_method_31_code 61 = .ok (.lreturn, 1) := by decide +kernel
theorem d_K_tell_62 : decode prog_7_method_31_code 62 = .ok (.aload_n 0, 1) := by decide +kernel
theorem d_K_tell_63 : decode prog_7_method_31_code 63 = .ok (.iconst 0, 1) := by decide +kernel
theorem d_K_tell_64 : decode prog_7_method_31_code 64 = .ok (.putfield 69, 3) := by decide +kernel
theorem d_K_tell_67 : decode prog_7_method_31_code 67 = .ok (.aload_n 0, 1) := by decide +kernel
theorem d_K_tell_68 : decode prog_7_method_31_code 68 = .ok (.iload_n 2, 1) := by decide +kernel
theorem d_K_tell_69 : decode prog_7_method_31_code 69 = .ok (.invokevirtual 164, 3) := by decide +kernel
theorem d_K_tell_72 : decode prog_7_method_31_code 72 = .ok (.iload_n 3, 1) := by decide +kernel
theorem d_K_tell_73 : decode prog_7_method_31_code 73 = .ok (.ifCond .ne 10, 3) := by decide +kernel
theorem d_K_tell_76 : decode prog_7_method_31_code 76 = .ok (.aload_n 0, 1) := by decide +kernel
theorem d_K_tell_77 : decode prog_7_method_31_code 77 = .ok (.getfield 150, 3) := by decide +kernel
theorem d_K_tell_80 : decode prog_7_method_31_code 80 = .ok (.goto 7, 3) := by decide +kernel
theorem d_K_tell_83 : decode prog_7_method_31_code 83 = .ok (.aload_n 0, 1) := by decide +kernel
theorem d_K_tell_84 : decode prog_7_method_31_code 84 = .ok (.getfield 154, 3) := by decide +kernel
theorem d_K_tell_87 : decode prog_7_method_31_code 87 = .ok (.lreturn, 1) := by decide +kernel
theorem d_K_raise_0 : decode prog_7_method_3_code 0 = .ok (.aload_n 0, 1) := by decide +kernel
theorem d_K_raise_1 : decode prog_7_method_3_code 1 = .ok (.iload_n 1, 1) := by decide +kernel
theorem d_K_raise_2 : decode prog_7_method_3_code 2 = .ok (.putfield 69, 3) := by decide +kernel
theorem d_K_raise_5 : decode prog_7_method_3_code 5 = .ok (.lconst 0, 1) := by decide +kernel
theorem d_K_raise_6 : decode prog_7_method_3_code 6 = .ok (.lreturn, 1) := by decide +kernel
theorem d_K_sumUp_0 : decode prog_7_method_30_code 0 = .ok (.aload_n 0, 1) := by decide +kernel
theorem d_K_sumUp_1 : decode prog_7_method_30_code 1 = .ok (.iload_n 1, 1) := by decide +kernel
theorem d_K_sumUp_2 : decode prog_7_method_30_code 2 = .ok (.invokevirtual 147, 3) := by decide +kernel
theorem d_K_sumUp_5 : decode prog_7_method_30_code 5 = .ok (.aload_n 0, 1) := by decide +kernel
theorem d_K_sumUp_6 : decode prog_7_method_30_code 6 = .ok (.lconst 0, 1) := by decide +kernel
theorem d_K_sumUp_7 : decode prog_7_method_30_code 7 = .ok (.putfield 150, 3) := by decide +kernel
theorem d_K_sumUp_10 : decode prog_7_method_30_code 10 = .ok (.aload_n 0, 1) := by decide +kernel
theorem d_K_sumUp_11 : decode prog_7_method_30_code 11 = .ok (.lconst 0, 1) := by decide +kernel
theorem d_K_sumUp_12 : decode prog_7_method_30_code 12 = .ok (.putfield 154, 3) := by decide +kernel
theorem d_K_sumUp_15 : decode prog_7_method_30_code 15 = .ok (.iconst 0, 1) := by decide +kernel
theorem d_K_sumUp_16 : decode prog_7_method_30_code 16 = .ok (.istore_n 2, 1) := by decide +kernel
theorem d_K_sumUp_17 : decode prog_7_method_30_code 17 = .ok (.iconst 0, 1) := by decide +kernel
theorem d_K_sumUp_18 : decode prog_7_method_30_code 18 = .ok (.istore_n 3, 1) := by decide +kernel
theorem d_K_sumUp_19 : decode prog_7_method_30_code 19 = .ok (.iload_n 3, 1) := by decide +kernel
theorem d_K_sumUp_20 : decode prog_7_method_30_code 20 = .ok (.iconst 1, 1) := by decide +kernel
theorem d_K_sumUp_21 : decode prog_7_method_30_code 21 = .ok (.aload_n 0, 1) := by decide +kernel
theorem d_K_sumUp_22 : decode prog_7_method_30_code 22 = .ok (.getfield 135, 3) := by decide +kernel
theorem d_K_sumUp_25 : decode prog_7_method_30_code 25 = .ok (.ishl, 1) := by decide +kernel
theorem d_K_sumUp_26 : decode prog_7_method_30_code 26 = .ok (.if_icmp .ge 148, 3) := by decide +kernel
theorem d_K_sumUp_29 : decode prog_7_method_30_code 29 = .ok (.iconst 0, 1) := by decide +kernel
theorem d_K_sumUp_30 : decode prog_7_method_30_code 30 = .ok (.istore 4, 2) := by decide +kernel
theorem d_K_sumUp_32 : decode prog_7_method_30_code 32 = .ok (.iload 4, 2) := by decide +kernel
theorem d_K_sumUp_34 : decode prog_7_method_30_code 34 = .ok (.aload_n 0, 1) := by decide +kernel
theorem d_K_sumUp_35 : decode prog_7_method_30_code 35 = .ok (.getfield 135, 3) := by decide +kernel
theorem d_K_sumUp_38 : decode prog_7_method_30_code 38 = .ok (.if_icmp .ge 34, 3) := by decide +kernel
theorem d_K_sumUp_41 : decode prog_7_method_30_code 41 = .ok (.aload_n 0, 1) := by decide +kernel
theorem d_K_sumUp_42 : decode prog_7_method_30_code 42 = .ok (.getfield 53, 3) := by decide +kernel
theorem d_K_sumUp_45 : decode prog_7_method_30_code 45 = .ok (.aload_n 0, 1) := by decide +kernel
theorem d_K_sumUp_46 : decode prog_7_method_30_code 46 = .ok (.getfield 56, 3) := by decide +kernel
theorem d_K_sumUp_49 : decode prog_7_method_30_code 49 = .ok (.iload 4, 2) := by decide +kernel
theorem d_K_sumUp_51 : decode prog_7_method_30_code 51 = .ok (.iaload, 1) := by decide +kernel
theorem d_K_sumUp_52 : decode prog_7_method_30_code 52 = .ok (.iload_n 3, 1) := by decide +kernel
theorem d_K_sumUp_53 : decode prog_7_method_30_code 53 = .ok (.aload_n 0, 1) := by decide +kernel
theorem d_K_sumUp_54 : decode prog_7_method_30_code 54 = .ok (.getfield 135, 3) := by decide +kernel
theorem d_K_sumUp_57 : decode prog_7_method_30_code 57 = .ok (.iconst 1, 1) := by decide +kernel
theorem d_K_sumUp_58 : decode prog_7_method_30_code 58 = .ok (.isub, 1) := by decide +kernel
theorem d_K_sumUp_59 : decode prog_7_method_30_code 59 = .ok (.iload 4, 2) := by decide +kernel
theorem d_K_sumUp_61 : decode prog_7_method_30_code 61 = .ok (.isub, 1) := by decide +kernel
theorem d_K_sumUp_62 : decode prog_7_method_30_code 62 = .ok (.ishr, 1) := by decide +kernel
theorem d_K_sumUp_63 : decode prog_7_method_30_code 63 = .ok (.iconst 1, 1) := by decide +kernel
theorem d_K_sumUp_64 : decode prog_7_method_30_code 64 = .ok (.iand, 1) := by decide +kernel
theorem d_K_sumUp_65 : decode prog_7_method_30_code 65 = .ok (.iastore, 1) := by decide +kernel
theorem d_K_sumUp_66 : decode prog_7_method_30_code 66 = .ok (.iinc 4 1, 3) := by decide +kernel
theorem d_K_sumUp_69 : decode prog_7_method_30_code 69 = .ok (.goto (-37), 3) := by decide +kernel
theorem d_K_sumUp_72 : decode prog_7_method_30_code 72 = .ok (.iload_n 2, 1) := by decide +kernel
theorem d_K_sumUp_73 : decode prog_7_method_30_code 73 = .ok (.istore 4, 2) := by decide +kernel
theorem d_K_sumUp_75 : decode prog_7_method_30_code 75 = .ok (.iload 4, 2) := by decide +kernel
theorem d_K_sumUp_77 : decode prog_7_method_30_code 77 = .ok (.aload_n 0, 1) := by decide +kernel
theorem d_K_sumUp_78 : decode prog_7_method_30_code 78 = .ok (.getfield 135, 3) := by decide +kernel
theorem d_K_sumUp_81 : decode prog_7_method_30_code 81 = .ok (.if_icmp .gt 15, 3) := by decide +kernel
theorem d_K_sumUp_84 : decode prog_7_method_30_code 84 = .ok (.aload_n 0, 1) := by decide +kernel
theorem d_K_sumUp_85 : decode prog_7_method_30_code 85 = .ok (.iload 4, 2) := by decide +kernel
theorem d_K_sumUp_87 : decode prog_7_method_30_code 87 = .ok (.invokevirtual 157, 3) := by decide +kernel
theorem d_K_sumUp_90 : decode prog_7_method_30_code 90 = .ok (.iinc 4 1, 3) := by decide +kernel
theorem d_K_sumUp_93 : decode prog_7_method_30_code 93 = .ok (.goto (-18), 3) := by decide +kernel
theorem d_K_sumUp_96 : decode prog_7_method_30_code 96 = .ok (.aload_n 0, 1) := by decide +kernel
theorem d_K_sumUp_97 : decode prog_7_method_30_code 97 = .ok (.dup, 1) := by decide +kernel
theorem d_K_sumUp_98 : decode prog_7_method_30_code 98 = .ok (.getfield 150, 3) := by decide +kernel
theorem d_K_sumUp_101 : decode prog_7_method_30_code 101 = .ok (.aload_n 0, 1) := by decide +kernel
theorem d_K_sumUp_102 : decode prog_7_method_30_code 102 = .ok (.getfield 62, 3) := by decide +kernel
theorem d_K_sumUp_105 : decode prog_7_method_30_code 105 = .ok (.aload_n 0, 1) := by decide +kernel
theorem d_K_sumUp_106 : decode prog_7_method_30_code 106 = .ok (.getfield 135, 3) := by decide +kernel
theorem d_K_sumUp_109 : decode prog_7_method_30_code 109 = .ok (.laload, 1) := by decide +kernel
theorem d_K_sumUp_110 : decode prog_7_method_30_code 110 = .ok (.ladd, 1) := by decide +kernel
theorem d_K_sumUp_111 : decode prog_7_method_30_code 111 = .ok (.putfield 150, 3) := by decide +kernel
theorem d_K_sumUp_114 : decode prog_7_method_30_code 114 = .ok (.aload_n 0, 1) := by decide +kernel
theorem d_K_sumUp_115 : decode prog_7_method_30_code 115 = .ok (.dup, 1) := by decide +kernel
theorem d_K_sumUp_116 : decode prog_7_method_30_code 116 = .ok (.getfield 154, 3) := by decide +kernel
theorem d_K_sumUp_119 : decode prog_7_method_30_code 119 = .ok (.aload_n 0, 1) := by decide +kernel
theorem d_K_sumUp_120 : decode prog_7_method_30_code 120 = .ok (.getfield 66, 3) := by decide +kernel
theorem d_K_sumUp_123 : decode prog_7_method_30_code 123 = .ok (.aload_n 0, 1) := by decide +kernel
theorem d_K_sumUp_124 : decode prog_7_method_30_code 124 = .ok (.getfield 135, 3) := by decide +kernel
theorem d_K_sumUp_127 : decode prog_7_method_30_code 127 = .ok (.laload, 1) := by decide +kernel
theorem d_K_sumUp_128 : decode prog_7_method_30_code 128 = .ok (.ladd, 1) := by decide +kernel
theorem d_K_sumUp_129 : decode prog_7_method_30_code 129 = .ok (.putfield 154, 3) := by decide +kernel
theorem d_K_sumUp_132 : decode prog_7_method_30_code 132 = .ok (.aload_n 0, 1) := by decide +kernel
theorem d_K_sumUp_133 : decode prog_7_method_30_code 133 = .ok (.getfield 135, 3) := by decide +kernel
theorem d_K_sumUp_136 : decode prog_7_method_30_code 136 = .ok (.istore 4, 2) := by decide +kernel
theorem d_K_sumUp_138 : decode prog_7_method_30_code 138 = .ok (.iload 4, 2) := by decide +kernel
theorem d_K_sumUp_140 : decode prog_7_method_30_code 140 = .ok (.ifCond .le 25, 3) := by decide +kernel
theorem d_K_sumUp_143 : decode prog_7_method_30_code 143 = .ok (.iload_n 3, 1) := by decide +kernel
theorem d_K_sumUp_144 : decode prog_7_method_30_code 144 = .ok (.iconst 1, 1) := by decide +kernel
theorem d_K_sumUp_145 : decode prog_7_method_30_code 145 = .ok (.iadd, 1) := by decide +kernel
theorem d_K_sumUp_146 : decode prog_7_method_30_code 146 = .ok (.aload_n 0, 1) := by decide +kernel
theorem d_K_sumUp_147 : decode prog_7_method_30_code 147 = .ok (.getfield 135, 3) := by decide +kernel
theorem d_K_sumUp_150 : decode prog_7_method_30_code 150 = .ok (.iload 4, 2) := by decide +kernel
theorem d_K_sumUp_152 : decode prog_7_method_30_code 152 = .ok (.isub, 1) := by decide +kernel
theorem d_K_sumUp_153 : decode prog_7_method_30_code 153 = .ok (.ishr, 1) := by decide +kernel
theorem d_K_sumUp_154 : decode prog_7_method_30_code 154 = .ok (.iconst 1, 1) := by decide +kernel
theorem d_K_sumUp_155 : decode prog_7_method_30_code 155 = .ok (.iand, 1) := by decide +kernel
theorem d_K_sumUp_156 : decode prog_7_method_30_code 156 = .ok (.ifCond .ne 9, 3) := by decide +kernel
theorem d_K_sumUp_159 : decode prog_7_method_30_code 159 = .ok (.iinc 4 (-1), 3) := by decide +kernel
theorem d_K_sumUp_162 : decode prog_7_method_30_code 162 = .ok (.goto (-24), 3) := by decide +kernel
theorem d_K_sumUp_165 : decode prog_7_method_30_code 165 = .ok (.iload 4, 2) := by decide +kernel
theorem d_K_sumUp_167 : decode prog_7_method_30_code 167 = .ok (.istore_n 2, 1) := by decide +kernel
theorem d_K_sumUp_168 : decode prog_7_method_30_code 168 = .ok (.iinc 3 1, 3) := by decide +kernel
theorem d_K_sumUp_171 : decode prog_7_method_30_code 171 = .ok (.goto (-152), 3) := by decide +kernel
theorem d_K_sumUp_174 : decode prog_7_method_30_code 174 = .ok (.return_, 1) := by decide +kernel
theorem d_K_order_0 : decode prog_7_method_27_code 0 = .ok (.iconst 0, 1) := by decide +kernel
theorem d_K_order_1 : decode prog_7_method_27_code 1 = .ok (.istore_n 2, 1) := by decide +kernel
theorem d_K_order_2 : decode prog_7_method_27_code 2 = .ok (.aload_n 0, 1) := by decide +kernel
theorem d_K_order_3 : decode prog_7_method_27_code 3 = .ok (.iconst 0, 1) := by decide +kernel
theorem d_K_order_4 : decode prog_7_method_27_code 4 = .ok (.putfield 135, 3) := by decide +kernel
theorem d_K_order_7 : decode prog_7_method_27_code 7 = .ok (.iconst 0, 1) := by decide +kernel
theorem d_K_order_8 : decode prog_7_method_27_code 8 = .ok (.istore_n 3, 1) := by decide +kernel
theorem d_K_order_9 : decode prog_7_method_27_code 9 = .ok (.iload_n 3, 1) := by decide +kernel
theorem d_K_order_10 : decode prog_7_method_27_code 10 = .ok (.bipush 20, 2) := by decide +kernel
theorem d_K_order_12 : decode prog_7_method_27_code 12 = .ok (.if_icmp .ge 69, 3) := by decide +kernel
theorem d_K_order_15 : decode prog_7_method_27_code 15 = .ok (.aload_n 0, 1) := by decide +kernel
theorem d_K_order_16 : decode prog_7_method_27_code 16 = .ok (.getfield 84, 3) := by decide +kernel
theorem d_K_order_19 : decode prog_7_method_27_code 19 = .ok (.iload_n 3, 1) := by decide +kernel
theorem d_K_order_20 : decode prog_7_method_27_code 20 = .ok (.ishr, 1) := by decide +kernel
theorem d_K_order_21 : decode prog_7_method_27_code 21 = .ok (.iconst 1, 1) := by decide +kernel
theorem d_K_order_22 : decode prog_7_method_27_code 22 = .ok (.iand, 1) := by decide +kernel
theorem d_K_order_23 : decode prog_7_method_27_code 23 = .ok (.iconst 1, 1) := by decide +kernel
theorem d_K_order_24 : decode prog_7_method_27_code 24 = .ok (.if_icmp .ne 17, 3) := by decide +kernel
theorem d_K_order_27 : decode prog_7_method_27_code 27 = .ok (.aload_n 0, 1) := by decide +kernel
theorem d_K_order_28 : decode prog_7_method_27_code 28 = .ok (.getfield 53, 3) := by decide +kernel
theorem d_K_order_31 : decode prog_7_method_27_code 31 = .ok (.iload_n 3, 1) := by decide +kernel
theorem d_K_order_32 : decode prog_7_method_27_code 32 = .ok (.iload_n 1, 1) := by decide +kernel
theorem d_K_order_33 : decode prog_7_method_27_code 33 = .ok (.iload_n 2, 1) := by decide +kernel
theorem d_K_order_34 : decode prog_7_method_27_code 34 = .ok (.ishr, 1) := by decide +kernel
theorem d_K_order_35 : decode prog_7_method_27_code 35 = .ok (.iconst 1, 1) := by decide +kernel
theorem d_K_order_36 : decode prog_7_method_27_code 36 = .ok (.iand, 1) := by decide +kernel
theorem d_K_order_37 : decode prog_7_method_27_code 37 = .ok (.iastore, 1) := by decide +kernel
theorem d_K_order_38 : decode prog_7_method_27_code 38 = .ok (.iinc 2 1, 3) := by decide +kernel
theorem d_K_order_41 : decode prog_7_method_27_code 41 = .ok (.aload_n 0, 1) := by decide +kernel
theorem d_K_order_42 : decode prog_7_method_27_code 42 = .ok (.getfield 87, 3) := by decide +kernel
theorem d_K_order_45 : decode prog_7_method_27_code 45 = .ok (.iload_n 3, 1) := by decide +kernel
theorem d_K_order_46 : decode prog_7_method_27_code 46 = .ok (.ishr, 1) := by decide +kernel
theorem d_K_order_47 : decode prog_7_method_27_code 47 = .ok (.iconst 1, 1) := by decide +kernel
theorem d_K_order_48 : decode prog_7_method_27_code 48 = .ok (.iand, 1) := by decide +kernel
theorem d_K_order_49 : decode prog_7_method_27_code 49 = .ok (.ifCond .ne 6, 3) := by decide +kernel
theorem d_K_order_52 : decode prog_7_method_27_code 52 = .ok (.goto 23, 3) := by decide +kernel
theorem d_K_order_55 : decode prog_7_method_27_code 55 = .ok (.aload_n 0, 1) := by decide +kernel
theorem d_K_order_56 : decode prog_7_method_27_code 56 = .ok (.getfield 56, 3) := by decide +kernel
theorem d_K_order_59 : decode prog_7_method_27_code 59 = .ok (.aload_n 0, 1) := by decide +kernel
theorem d_K_order_60 : decode prog_7_method_27_code 60 = .ok (.getfield 135, 3) := by decide +kernel
theorem d_K_order_63 : decode prog_7_method_27_code 63 = .ok (.iload_n 3, 1) := by decide +kernel
theorem d_K_order_64 : decode prog_7_method_27_code 64 = .ok (.iastore, 1) := by decide +kernel
theorem d_K_order_65 : decode prog_7_method_27_code 65 = .ok (.aload_n 0, 1) := by decide +kernel
theorem d_K_order_66 : decode prog_7_method_27_code 66 = .ok (.dup, 1) := by decide +kernel
theorem d_K_order_67 : decode prog_7_method_27_code 67 = .ok (.getfield 135, 3) := by decide +kernel
theorem d_K_order_70 : decode prog_7_method_27_code 70 = .ok (.iconst 1, 1) := by decide +kernel
theorem d_K_order_71 : decode prog_7_method_27_code 71 = .ok (.iadd, 1) := by decide +kernel
theorem d_K_order_72 : decode prog_7_method_27_code 72 = .ok (.putfield 135, 3) := by decide +kernel
theorem d_K_order_75 : decode prog_7_method_27_code 75 = .ok (.iinc 3 1, 3) := by decide +kernel
theorem d_K_order_78 : decode prog_7_method_27_code 78 = .ok (.goto (-69), 3) := by decide +kernel
theorem d_K_order_81 : decode prog_7_method_27_code 81 = .ok (.iconst 0, 1) := by decide +kernel
theorem d_K_order_82 : decode prog_7_method_27_code 82 = .ok (.istore_n 3, 1) := by decide +kernel
theorem d_K_order_83 : decode prog_7_method_27_code 83 = .ok (.iload_n 3, 1) := by decide +kernel
theorem d_K_order_84 : decode prog_7_method_27_code 84 = .ok (.aload_n 0, 1) := by decide +kernel
theorem d_K_order_85 : decode prog_7_method_27_code 85 = .ok (.getfield 73, 3) := by decide +kernel
theorem d_K_order_88 : decode prog_7_method_27_code 88 = .ok (.if_icmp .ge 95, 3) := by decide +kernel
theorem d_K_order_91 : decode prog_7_method_27_code 91 = .ok (.aload_n 0, 1) := by decide +kernel
theorem d_K_order_92 : decode prog_7_method_27_code 92 = .ok (.getfield 59, 3) := by decide +kernel
theorem d_K_order_95 : decode prog_7_method_27_code 95 = .ok (.iload_n 3, 1) := by decide +kernel
theorem d_K_order_96 : decode prog_7_method_27_code 96 = .ok (.iconst 0, 1) := by decide +kernel
theorem d_K_order_97 : decode prog_7_method_27_code 97 = .ok (.iastore, 1) := by decide +kernel
theorem d_K_order_98 : decode prog_7_method_27_code 98 = .ok (.iconst 0, 1) := by decide +kernel
theorem d_K_order_99 : decode prog_7_method_27_code 99 = .ok (.istore 4, 2) := by decide +kernel
theorem d_K_order_101 : decode prog_7_method_27_code 101 = .ok (.iload 4, 2) := by decide +kernel
theorem d_K_order_103 : decode prog_7_method_27_code 103 = .ok (.aload_n 0, 1) := by decide +kernel
theorem d_K_order_104 : decode prog_7_method_27_code 104 = .ok (.getfield 135, 3) := by decide +kernel
theorem d_K_order_107 : decode prog_7_method_27_code 107 = .ok (.if_icmp .ge 70, 3) := by decide +kernel
theorem d_K_order_110 : decode prog_7_method_27_code 110 = .ok (.iconst 0, 1) := by decide +kernel
theorem d_K_order_111 : decode prog_7_method_27_code 111 = .ok (.istore 5, 2) := by decide +kernel
theorem d_K_order_113 : decode prog_7_method_27_code 113 = .ok (.iload 5, 2) := by decide +kernel
theorem d_K_order_115 : decode prog_7_method_27_code 115 = .ok (.aload_n 0, 1) := by decide +kernel
theorem d_K_order_116 : decode prog_7_method_27_code 116 = .ok (.getfield 7, 3) := by decide +kernel
theorem d_K_order_119 : decode prog_7_method_27_code 119 = .ok (.iload_n 3, 1) := by decide +kernel
theorem d_K_order_120 : decode prog_7_method_27_code 120 = .ok (.iaload, 1) := by decide +kernel
theorem d_K_order_121 : decode prog_7_method_27_code 121 = .ok (.if_icmp .ge 50, 3) := by decide +kernel
theorem d_K_order_124 : decode prog_7_method_27_code 124 = .ok (.aload_n 0, 1) := by decide +kernel
theorem d_K_order_125 : decode prog_7_method_27_code 125 = .ok (.getfield 59, 3) := by decide +kernel
theorem d_K_order_128 : decode prog_7_method_27_code 128 = .ok (.iload_n 3, 1) := by decide +kernel
theorem d_K_order_129 : decode prog_7_method_27_code 129 = .ok (.aload_n 0, 1) := by decide +kernel
theorem d_K_order_130 : decode prog_7_method_27_code 130 = .ok (.getfield 13, 3) := by decide +kernel
theorem d_K_order_133 : decode prog_7_method_27_code 133 = .ok (.bipush 6, 2) := by decide +kernel
theorem d_K_order_135 : decode prog_7_method_27_code 135 = .ok (.iload_n 3, 1) := by decide +kernel
theorem d_K_order_136 : decode prog_7_method_27_code 136 = .ok (.imul, 1) := by decide +kernel
theorem d_K_order_137 : decode prog_7_method_27_code 137 = .ok (.iload 5, 2) := by decide +kernel
theorem d_K_order_139 : decode prog_7_method_27_code 139 = .ok (.iadd, 1) := by decide +kernel
theorem d_K_order_140 : decode prog_7_method_27_code 140 = .ok (.iaload, 1) := by decide +kernel
theorem d_K_order_141 : decode prog_7_method_27_code 141 = .ok (.aload_n 0, 1) := by decide +kernel
theorem d_K_order_142 : decode prog_7_method_27_code 142 = .ok (.getfield 56, 3) := by decide +kernel
theorem d_K_order_145 : decode prog_7_method_27_code 145 = .ok (.iload 4, 2) := by decide +kernel
theorem d_K_order_147 : decode prog_7_method_27_code 147 = .ok (.iaload, 1) := by decide +kernel
theorem d_K_order_148 : decode prog_7_method_27_code 148 = .ok (.if_icmp .ne 10, 3) := by decide +kernel
theorem d_K_order_151 : decode prog_7_method_27_code 151 = .ok (.iload 4, 2) := by decide +kernel
theorem d_K_order_153 : decode prog_7_method_27_code 153 = .ok (.iconst 1, 1) := by decide +kernel
theorem d_K_order_154 : decode prog_7_method_27_code 154 = .ok (.iadd, 1) := by decide +kernel
theorem d_K_order_155 : decode prog_7_method_27_code 155 = .ok (.goto 9, 3) := by decide +kernel
theorem d_K_order_158 : decode prog_7_method_27_code 158 = .ok (.aload_n 0, 1) := by decide +kernel
theorem d_K_order_159 : decode prog_7_method_27_code 159 = .ok (.getfield 59, 3) := by decide +kernel
theorem d_K_order_162 : decode prog_7_method_27_code 162 = .ok (.iload_n 3, 1) := by decide +kernel
theorem d_K_order_163 : decode prog_7_method_27_code 163 = .ok (.iaload, 1) := by decide +kernel
theorem d_K_order_164 : decode prog_7_method_27_code 164 = .ok (.iastore, 1) := by decide +kernel
theorem d_K_order_165 : decode prog_7_method_27_code 165 = .ok (.iinc 5 1, 3) := by decide +kernel
theorem d_K_order_168 : decode prog_7_method_27_code 168 = .ok (.goto (-55), 3) := by decide +kernel
theorem d_K_order_171 : decode prog_7_method_27_code 171 = .ok (.iinc 4 1, 3) := by decide +kernel
theorem d_K_order_174 : decode prog_7_method_27_code 174 = .ok (.goto (-73), 3) := by decide +kernel
theorem d_K_order_177 : decode prog_7_method_27_code 177 = .ok (.iinc 3 1, 3) := by decide +kernel
theorem d_K_order_180 : decode prog_7_method_27_code 180 = .ok (.goto (-97), 3) := by decide +kernel
theorem d_K_order_183 : decode prog_7_method_27_code 183 = .ok (.return_, 1) := by decide +kernel
theorem d_K_multiply_0 : decode prog_7_method_29_code 0 = .ok (.iload_n 1, 1) := by decide +kernel
theorem d_K_multiply_1 : decode prog_7_method_29_code 1 = .ok (.ifCond .ne 7, 3) := by decide +kernel
theorem d_K_multiply_4 : decode prog_7_method_29_code 4 = .ok (.lconst 1, 1) := by decide +kernel
theorem d_K_multiply_5 : decode prog_7_method_29_code 5 = .ok (.goto 11, 3) := by decide +kernel
theorem d_K_multiply_8 : decode prog_7_method_29_code 8 = .ok (.aload_n 0, 1) := by decide +kernel
theorem d_K_multiply_9 : decode prog_7_method_29_code 9 = .ok (.getfield 62, 3) := by decide +kernel
theorem d_K_multiply_12 : decode prog_7_method_29_code 12 = .ok (.iload_n 1, 1) := by decide +kernel
theorem d_K_multiply_13 : decode prog_7_method_29_code 13 = .ok (.iconst 1, 1) := by decide +kernel
theorem d_K_multiply_14 : decode prog_7_method_29_code 14 = .ok (.isub, 1) := by decide +kernel
theorem d_K_multiply_15 : decode prog_7_method_29_code 15 = .ok (.laload, 1) := by decide +kernel
theorem d_K_multiply_16 : decode prog_7_method_29_code 16 = .ok (.lstore_n 2, 1) := by decide +kernel
theorem d_K_multiply_17 : decode prog_7_method_29_code 17 = .ok (.iload_n 1, 1) := by decide +kernel
theorem d_K_multiply_18 : decode prog_7_method_29_code 18 = .ok (.ifCond .ne 7, 3) := by decide +kernel
theorem d_K_multiply_21 : decode prog_7_method_29_code 21 = .ok (.lconst 0, 1) := by decide +kernel
theorem d_K_multiply_22 : decode prog_7_method_29_code 22 = .ok (.goto 11, 3) := by decide +kernel
theorem d_K_multiply_25 : decode prog_7_method_29_code 25 = .ok (.aload_n 0, 1) := by decide +kernel
theorem d_K_multiply_26 : decode prog_7_method_29_code 26 = .ok (.getfield 66, 3) := by decide +kernel
theorem d_K_multiply_29 : decode prog_7_method_29_code 29 = .ok (.iload_n 1, 1) := by decide +kernel
theorem d_K_multiply_30 : decode prog_7_method_29_code 30 = .ok (.iconst 1, 1) := by decide +kernel
theorem d_K_multiply_31 : decode prog_7_method_29_code 31 = .ok (.isub, 1) := by decide +kernel
theorem d_K_multiply_32 : decode prog_7_method_29_code 32 = .ok (.laload, 1) := by decide +kernel
theorem d_K_multiply_33 : decode prog_7_method_29_code 33 = .ok (.lstore 4, 2) := by decide +kernel
theorem d_K_multiply_35 : decode prog_7_method_29_code 35 = .ok (.iconst 0, 1) := by decide +kernel
theorem d_K_multiply_36 : decode prog_7_method_29_code 36 = .ok (.istore 6, 2) := by decide +kernel
theorem d_K_multiply_38 : decode prog_7_method_29_code 38 = .ok (.iload 6, 2) := by decide +kernel
theorem d_K_multiply_40 : decode prog_7_method_29_code 40 = .ok (.aload_n 0, 1) := by decide +kernel
theorem d_K_multiply_41 : decode prog_7_method_29_code 41 = .ok (.getfield 73, 3) := by decide +kernel
theorem d_K_multiply_44 : decode prog_7_method_29_code 44 = .ok (.if_icmp .ge 129, 3) := by decide +kernel
theorem d_K_multiply_47 : decode prog_7_method_29_code 47 = .ok (.aload_n 0, 1) := by decide +kernel
theorem d_K_multiply_48 : decode prog_7_method_29_code 48 = .ok (.getfield 59, 3) := by decide +kernel
theorem d_K_multiply_51 : decode prog_7_method_29_code 51 = .ok (.iload 6, 2) := by decide +kernel
theorem d_K_multiply_53 : decode prog_7_method_29_code 53 = .ok (.iaload, 1) := by decide +kernel
theorem d_K_multiply_54 : decode prog_7_method_29_code 54 = .ok (.iload_n 1, 1) := by decide +kernel
theorem d_K_multiply_55 : decode prog_7_method_29_code 55 = .ok (.if_icmp .eq 6, 3) := by decide +kernel
theorem d_K_multiply_58 : decode prog_7_method_29_code 58 = .ok (.goto 109, 3) := by decide +kernel
theorem d_K_multiply_61 : decode prog_7_method_29_code 61 = .ok (.aload_n 0, 1) := by decide +kernel
theorem d_K_multiply_62 : decode prog_7_method_29_code 62 = .ok (.iload 6, 2) := by decide +kernel
theorem d_K_multiply_64 : decode prog_7_method_29_code 64 = .ok (.invokevirtual 138, 3) := by decide +kernel
theorem d_K_multiply_67 : decode prog_7_method_29_code 67 = .ok (.istore 7, 2) := by decide +kernel
theorem d_K_multiply_69 : decode prog_7_method_29_code 69 = .ok (.iload 6, 2) := by decide +kernel
theorem d_K_multiply_71 : decode prog_7_method_29_code 71 = .ok (.aload_n 0, 1) := by decide +kernel
theorem d_K_multiply_72 : decode prog_7_method_29_code 72 = .ok (.getfield 141, 3) := by decide +kernel
theorem d_K_multiply_75 : decode prog_7_method_29_code 75 = .ok (.if_icmp .ne 20, 3) := by decide +kernel
theorem d_K_multiply_78 : decode prog_7_method_29_code 78 = .ok (.iload 7, 2) := by decide +kernel
theorem d_K_multiply_80 : decode prog_7_method_29_code 80 = .ok (.aload_n 0, 1) := by decide +kernel
theorem d_K_multiply_81 : decode prog_7_method_29_code 81 = .ok (.getfield 144, 3) := by decide +kernel
theorem d_K_multiply_84 : decode prog_7_method_29_code 84 = .ok (.if_icmp .ne 7, 3) := by decide +kernel
theorem d_K_multiply_87 : decode prog_7_method_29_code 87 = .ok (.lconst 1, 1) := by decide +kernel
theorem d_K_multiply_88 : decode prog_7_method_29_code 88 = .ok (.goto 21, 3) := by decide +kernel
theorem d_K_multiply_91 : decode prog_7_method_29_code 91 = .ok (.lconst 0, 1) := by decide +kernel
theorem d_K_multiply_92 : decode prog_7_method_29_code 92 = .ok (.goto 17, 3) := by decide +kernel
theorem d_K_multiply_95 : decode prog_7_method_29_code 95 = .ok (.aload_n 0, 1) := by decide +kernel
theorem d_K_multiply_96 : decode prog_7_method_29_code 96 = .ok (.getfield 16, 3) := by decide +kernel
theorem d_K_multiply_99 : decode prog_7_method_29_code 99 = .ok (.bipush 64, 2) := by decide +kernel
theorem d_K_multiply_101 : decode prog_7_method_29_code 101 = .ok (.iload 6, 2) := by decide +kernel
theorem d_K_multiply_103 : decode prog_7_method_29_code 103 = .ok (.imul, 1) := by decide +kernel
theorem d_K_multiply_104 : decode prog_7_method_29_code 104 = .ok (.iload 7, 2) := by decide +kernel
theorem d_K_multiply_106 : decode prog_7_method_29_code 106 = .ok (.iadd, 1) := by decide +kernel
theorem d_K_multiply_107 : decode prog_7_method_29_code 107 = .ok (.iaload, 1) := by decide +kernel
theorem d_K_multiply_108 : decode prog_7_method_29_code 108 = .ok (.i2l, 1) := by decide +kernel
theorem d_K_multiply_109 : decode prog_7_method_29_code 109 = .ok (.lstore 8, 2) := by decide +kernel
theorem d_K_multiply_111 : decode prog_7_method_29_code 111 = .ok (.iload 6, 2) := by decide +kernel
theorem d_K_multiply_113 : decode prog_7_method_29_code 113 = .ok (.aload_n 0, 1) := by decide +kernel
theorem d_K_multiply_114 : decode prog_7_method_29_code 114 = .ok (.getfield 141, 3) := by decide +kernel
theorem d_K_multiply_117 : decode prog_7_method_29_code 117 = .ok (.if_icmp .ne 7, 3) := by decide +kernel
theorem d_K_multiply_120 : decode prog_7_method_29_code 120 = .ok (.lconst 0, 1) := by decide +kernel
theorem d_K_multiply_121 : decode prog_7_method_29_code 121 = .ok (.goto 17, 3) := by decide +kernel
theorem d_K_multiply_124 : decode prog_7_method_29_code 124 = .ok (.aload_n 0, 1) := by decide +kernel
theorem d_K_multiply_125 : decode prog_7_method_29_code 125 = .ok (.getfield 19, 3) := by decide +kernel
theorem d_K_multiply_128 : decode prog_7_method_29_code 128 = .ok (.bipush 64, 2) := by decide +kernel
theorem d_K_multiply_130 : decode prog_7_method_29_code 130 = .ok (.iload 6, 2) := by decide +kernel
theorem d_K_multiply_132 : decode prog_7_method_29_code 132 = .ok (.imul, 1) := by decide +kernel
theorem d_K_multiply_133 : decode prog_7_method_29_code 133 = .ok (.iload 7, 2) := by decide +kernel
theorem d_K_multiply_135 : decode prog_7_method_29_code 135 = .ok (.iadd, 1) := by decide +kernel
theorem d_K_multiply_136 : decode prog_7_method_29_code 136 = .ok (.iaload, 1) := by decide +kernel
theorem d_K_multiply_137 : decode prog_7_method_29_code 137 = .ok (.i2l, 1) := by decide +kernel
theorem d_K_multiply_138 : decode prog_7_method_29_code 138 = .ok (.lstore 10, 2) := by decide +kernel
theorem d_K_multiply_140 : decode prog_7_method_29_code 140 = .ok (.lload_n 2, 1) := by decide +kernel
theorem d_K_multiply_141 : decode prog_7_method_29_code 141 = .ok (.lload 8, 2) := by decide +kernel
theorem d_K_multiply_143 : decode prog_7_method_29_code 143 = .ok (.lmul, 1) := by decide +kernel
theorem d_K_multiply_144 : decode prog_7_method_29_code 144 = .ok (.lload 4, 2) := by decide +kernel
theorem d_K_multiply_146 : decode prog_7_method_29_code 146 = .ok (.lload 10, 2) := by decide +kernel
theorem d_K_multiply_148 : decode prog_7_method_29_code 148 = .ok (.lmul, 1) := by decide +kernel
theorem d_K_multiply_149 : decode prog_7_method_29_code 149 = .ok (.lsub, 1) := by decide +kernel
theorem d_K_multiply_150 : decode prog_7_method_29_code 150 = .ok (.lstore 12, 2) := by decide +kernel
theorem d_K_multiply_152 : decode prog_7_method_29_code 152 = .ok (.lload_n 2, 1) := by decide +kernel
theorem d_K_multiply_153 : decode prog_7_method_29_code 153 = .ok (.lload 10, 2) := by decide +kernel
theorem d_K_multiply_155 : decode prog_7_method_29_code 155 = .ok (.lmul, 1) := by decide +kernel
theorem d_K_multiply_156 : decode prog_7_method_29_code 156 = .ok (.lload 4, 2) := by decide +kernel
theorem d_K_multiply_158 : decode prog_7_method_29_code 158 = .ok (.lload 8, 2) := by decide +kernel
theorem d_K_multiply_160 : decode prog_7_method_29_code 160 = .ok (.lmul, 1) := by decide +kernel
theorem d_K_multiply_161 : decode prog_7_method_29_code 161 = .ok (.ladd, 1) := by decide +kernel
theorem d_K_multiply_162 : decode prog_7_method_29_code 162 = .ok (.lstore 4, 2) := by decide +kernel
theorem d_K_multiply_164 : decode prog_7_method_29_code 164 = .ok (.lload 12, 2) := by decide +kernel
theorem d_K_multiply_166 : decode prog_7_method_29_code 166 = .ok (.lstore_n 2, 1) := by decide +kernel
theorem d_K_multiply_167 : decode prog_7_method_29_code 167 = .ok (.iinc 6 1, 3) := by decide +kernel
theorem d_K_multiply_170 : decode prog_7_method_29_code 170 = .ok (.goto (-132), 3) := by decide +kernel
theorem d_K_multiply_173 : decode prog_7_method_29_code 173 = .ok (.aload_n 0, 1) := by decide +kernel
theorem d_K_multiply_174 : decode prog_7_method_29_code 174 = .ok (.getfield 62, 3) := by decide +kernel
theorem d_K_multiply_177 : decode prog_7_method_29_code 177 = .ok (.iload_n 1, 1) := by decide +kernel
theorem d_K_multiply_178 : decode prog_7_method_29_code 178 = .ok (.lload_n 2, 1) := by decide +kernel
theorem d_K_multiply_179 : decode prog_7_method_29_code 179 = .ok (.lastore, 1) := by decide +kernel
theorem d_K_multiply_180 : decode prog_7_method_29_code 180 = .ok (.aload_n 0, 1) := by decide +kernel
theorem d_K_multiply_181 : decode prog_7_method_29_code 181 = .ok (.getfield 66, 3) := by decide +kernel
theorem d_K_multiply_184 : decode prog_7_method_29_code 184 = .ok (.iload_n 1, 1) := by decide +kernel
theorem d_K_multiply_185 : decode prog_7_method_29_code 185 = .ok (.lload 4, 2) := by decide +kernel
theorem d_K_multiply_187 : decode prog_7_method_29_code 187 = .ok (.lastore, 1) := by decide +kernel
theorem d_K_multiply_188 : decode prog_7_method_29_code 188 = .ok (.return_, 1) := by decide +kernel
theorem d_K_indexOf_0 : decode prog_7_method_28_code 0 = .ok (.iconst 0, 1) := by decide +kernel
theorem d_K_indexOf_1 : decode prog_7_method_28_code 1 = .ok (.istore_n 2, 1) := by decide +kernel
theorem d_K_indexOf_2 : decode prog_7_method_28_code 2 = .ok (.iconst 0, 1) := by decide +kernel
theorem d_K_indexOf_3 : decode prog_7_method_28_code 3 = .ok (.istore_n 3, 1) := by decide +kernel
theorem d_K_indexOf_4 : decode prog_7_method_28_code 4 = .ok (.iload_n 3, 1) := by decide +kernel
theorem d_K_indexOf_5 : decode prog_7_method_28_code 5 = .ok (.aload_n 0, 1) := by decide +kernel
theorem d_K_indexOf_6 : decode prog_7_method_28_code 6 = .ok (.getfield 7, 3) := by decide +kernel
theorem d_K_indexOf_9 : decode prog_7_method_28_code 9 = .ok (.iload_n 1, 1) := by decide +kernel
theorem d_K_indexOf_10 : decode prog_7_method_28_code 10 = .ok (.iaload, 1) := by decide +kernel
theorem d_K_indexOf_11 : decode prog_7_method_28_code 11 = .ok (.if_icmp .ge 30, 3) := by decide +kernel
theorem d_K_indexOf_14 : decode prog_7_method_28_code 14 = .ok (.iload_n 2, 1) := by decide +kernel
theorem d_K_indexOf_15 : decode prog_7_method_28_code 15 = .ok (.aload_n 0, 1) := by decide +kernel
theorem d_K_indexOf_16 : decode prog_7_method_28_code 16 = .ok (.getfield 53, 3) := by decide +kernel
theorem d_K_indexOf_19 : decode prog_7_method_28_code 19 = .ok (.aload_n 0, 1) := by decide +kernel
theorem d_K_indexOf_20 : decode prog_7_method_28_code 20 = .ok (.getfield 13, 3) := by decide +kernel
theorem d_K_indexOf_23 : decode prog_7_method_28_code 23 = .ok (.bipush 6, 2) := by decide +kernel
theorem d_K_indexOf_25 : decode prog_7_method_28_code 25 = .ok (.iload_n 1, 1) := by decide +kernel
theorem d_K_indexOf_26 : decode prog_7_method_28_code 26 = .ok (.imul, 1) := by decide +kernel
theorem d_K_indexOf_27 : decode prog_7_method_28_code 27 = .ok (.iload_n 3, 1) := by decide +kernel
theorem d_K_indexOf_28 : decode prog_7_method_28_code 28 = .ok (.iadd, 1) := by decide +kernel
theorem d_K_indexOf_29 : decode prog_7_method_28_code 29 = .ok (.iaload, 1) := by decide +kernel
theorem d_K_indexOf_30 : decode prog_7_method_28_code 30 = .ok (.iaload, 1) := by decide +kernel
theorem d_K_indexOf_31 : decode prog_7_method_28_code 31 = .ok (.iload_n 3, 1) := by decide +kernel
theorem d_K_indexOf_32 : decode prog_7_method_28_code 32 = .ok (.ishl, 1) := by decide +kernel
theorem d_K_indexOf_33 : decode prog_7_method_28_code 33 = .ok (.ior, 1) := by decide +kernel
theorem d_K_indexOf_34 : decode prog_7_method_28_code 34 = .ok (.istore_n 2, 1) := by decide +kernel
theorem d_K_indexOf_35 : decode prog_7_method_28_code 35 = .ok (.iinc 3 1, 3) := by decide +kernel
theorem d_K_indexOf_38 : decode prog_7_method_28_code 38 = .ok (.goto (-34), 3) := by decide +kernel
theorem d_K_indexOf_41 : decode prog_7_method_28_code 41 = .ok (.iload_n 2, 1) := by decide +kernel
theorem d_K_indexOf_42 : decode prog_7_method_28_code 42 = .ok (.ireturn, 1) := by decide +kernel
theorem d_K_slope_0 : decode prog_7_method_33_code 0 = .ok (.aload_n 0, 1) := by decide +kernel
theorem d_K_slope_1 : decode prog_7_method_33_code 1 = .ok (.iload_n 1, 1) := by decide +kernel
theorem d_K_slope_2 : decode prog_7_method_33_code 2 = .ok (.putfield 141, 3) := by decide +kernel
theorem d_K_slope_5 : decode prog_7_method_33_code 5 = .ok (.aload_n 0, 1) := by decide +kernel
theorem d_K_slope_6 : decode prog_7_method_33_code 6 = .ok (.iload_n 2, 1) := by decide +kernel
theorem d_K_slope_7 : decode prog_7_method_33_code 7 = .ok (.putfield 144, 3) := by decide +kernel
theorem d_K_slope_10 : decode prog_7_method_33_code 10 = .ok (.aload_n 0, 1) := by decide +kernel
theorem d_K_slope_11 : decode prog_7_method_33_code 11 = .ok (.aload_n 0, 1) := by decide +kernel
theorem d_K_slope_12 : decode prog_7_method_33_code 12 = .ok (.iload_n 1, 1) := by decide +kernel
theorem d_K_slope_13 : decode prog_7_method_33_code 13 = .ok (.iload_n 2, 1) := by decide +kernel
theorem d_K_slope_14 : decode prog_7_method_33_code 14 = .ok (.invokevirtual 80, 3) := by decide +kernel
theorem d_K_slope_17 : decode prog_7_method_33_code 17 = .ok (.iload_n 3, 1) := by decide +kernel
theorem d_K_slope_18 : decode prog_7_method_33_code 18 = .ok (.iload 4, 2) := by decide +kernel
theorem d_K_slope_20 : decode prog_7_method_33_code 20 = .ok (.invokevirtual 167, 3) := by decide +kernel
theorem d_K_slope_23 : decode prog_7_method_33_code 23 = .ok (.lreturn, 1) := by decide +kernel
theorem d_K_total_0 : decode prog_7_method_34_code 0 = .ok (.aload_n 0, 1) := by decide +kernel
theorem d_K_total_1 : decode prog_7_method_34_code 1 = .ok (.iconst 0, 1) := by decide +kernel
theorem d_K_total_2 : decode prog_7_method_34_code 2 = .ok (.putfield 69, 3) := by decide +kernel
theorem d_K_total_5 : decode prog_7_method_34_code 5 = .ok (.iconst 0, 1) := by decide +kernel
theorem d_K_total_6 : decode prog_7_method_34_code 6 = .ok (.istore_n 2, 1) := by decide +kernel
theorem d_K_total_7 : decode prog_7_method_34_code 7 = .ok (.iload_n 1, 1) := by decide +kernel
theorem d_K_total_8 : decode prog_7_method_34_code 8 = .ok (.tableswitch 142 0 3 #[32, 37, 64, 126], 32) := by decide +kernel
theorem d_K_total_40 : decode prog_7_method_34_code 40 = .ok (.aload_n 0, 1) := by decide +kernel
theorem d_K_total_41 : decode prog_7_method_34_code 41 = .ok (.getfield 73, 3) := by decide +kernel
theorem d_K_total_44 : decode prog_7_method_34_code 44 = .ok (.ireturn, 1) := by decide +kernel
theorem d_K_total_45 : decode prog_7_method_34_code 45 = .ok (.iconst 0, 1) := by decide +kernel
theorem d_K_total_46 : decode prog_7_method_34_code 46 = .ok (.istore_n 3, 1) := by decide +kernel
theorem d_K_total_47 : decode prog_7_method_34_code 47 = .ok (.iload_n 3, 1) := by decide +kernel
theorem d_K_total_48 : decode prog_7_method_34_code 48 = .ok (.aload_n 0, 1) := by decide +kernel
theorem d_K_total_49 : decode prog_7_method_34_code 49 = .ok (.getfield 73, 3) := by decide +kernel
theorem d_K_total_52 : decode prog_7_method_34_code 52 = .ok (.if_icmp .ge 18, 3) := by decide +kernel
theorem d_K_total_55 : decode prog_7_method_34_code 55 = .ok (.iload_n 2, 1) := by decide +kernel
theorem d_K_total_56 : decode prog_7_method_34_code 56 = .ok (.aload_n 0, 1) := by decide +kernel
theorem d_K_total_57 : decode prog_7_method_34_code 57 = .ok (.getfield 7, 3) := by decide +kernel
theorem d_K_total_60 : decode prog_7_method_34_code 60 = .ok (.iload_n 3, 1) := by decide +kernel
theorem d_K_total_61 : decode prog_7_method_34_code 61 = .ok (.iaload, 1) := by decide +kernel
theorem d_K_total_62 : decode prog_7_method_34_code 62 = .ok (.iadd, 1) := by decide +kernel
theorem d_K_total_63 : decode prog_7_method_34_code 63 = .ok (.istore_n 2, 1) := by decide +kernel
theorem d_K_total_64 : decode prog_7_method_34_code 64 = .ok (.iinc 3 1, 3) := by decide +kernel
theorem d_K_total_67 : decode prog_7_method_34_code 67 = .ok (.goto (-20), 3) := by decide +kernel
theorem d_K_total_70 : decode prog_7_method_34_code 70 = .ok (.iload_n 2, 1) := by decide +kernel
theorem d_K_total_71 : decode prog_7_method_34_code 71 = .ok (.ireturn, 1) := by decide +kernel
theorem d_K_total_72 : decode prog_7_method_34_code 72 = .ok (.iconst 0, 1) := by decide +kernel
theorem d_K_total_73 : decode prog_7_method_34_code 73 = .ok (.istore_n 3, 1) := by decide +kernel
theorem d_K_total_74 : decode prog_7_method_34_code 74 = .ok (.iload_n 3, 1) := by decide +kernel
theorem d_K_total_75 : decode prog_7_method_34_code 75 = .ok (.aload_n 0, 1) := by decide +kernel
theorem d_K_total_76 : decode prog_7_method_34_code 76 = .ok (.getfield 73, 3) := by decide +kernel
theorem d_K_total_79 : decode prog_7_method_34_code 79 = .ok (.if_icmp .ge 53, 3) := by decide +kernel
theorem d_K_total_82 : decode prog_7_method_34_code 82 = .ok (.iconst 0, 1) := by decide +kernel
theorem d_K_total_83 : decode prog_7_method_34_code 83 = .ok (.istore 4, 2) := by decide +kernel
theorem d_K_total_85 : decode prog_7_method_34_code 85 = .ok (.iload 4, 2) := by decide +kernel
theorem d_K_total_87 : decode prog_7_method_34_code 87 = .ok (.aload_n 0, 1) := by decide +kernel
theorem d_K_total_88 : decode prog_7_method_34_code 88 = .ok (.getfield 7, 3) := by decide +kernel
theorem d_K_total_91 : decode prog_7_method_34_code 91 = .ok (.iload_n 3, 1) := by decide +kernel
theorem d_K_total_92 : decode prog_7_method_34_code 92 = .ok (.iaload, 1) := by decide +kernel
theorem d_K_total_93 : decode prog_7_method_34_code 93 = .ok (.if_icmp .ge 33, 3) := by decide +kernel
theorem d_K_total_96 : decode prog_7_method_34_code 96 = .ok (.iload_n 2, 1) := by decide +kernel
theorem d_K_total_97 : decode prog_7_method_34_code 97 = .ok (.aload_n 0, 1) := by decide +kernel
theorem d_K_total_98 : decode prog_7_method_34_code 98 = .ok (.getfield 13, 3) := by decide +kernel
theorem d_K_total_101 : decode prog_7_method_34_code 101 = .ok (.bipush 6, 2) := by decide +kernel
theorem d_K_total_103 : decode prog_7_method_34_code 103 = .ok (.iload_n 3, 1) := by decide +kernel
theorem d_K_total_104 : decode prog_7_method_34_code 104 = .ok (.imul, 1) := by decide +kernel
theorem d_K_total_105 : decode prog_7_method_34_code 105 = .ok (.iload 4, 2) := by decide +kernel
theorem d_K_total_107 : decode prog_7_method_34_code 107 = .ok (.iadd, 1) := by decide +kernel
theorem d_K_total_108 : decode prog_7_method_34_code 108 = .ok (.iaload, 1) := by decide +kernel
theorem d_K_total_109 : decode prog_7_method_34_code 109 = .ok (.iconst (-1), 1) := by decide +kernel
theorem d_K_total_110 : decode prog_7_method_34_code 110 = .ok (.if_icmp .ne 7, 3) := by decide +kernel
theorem d_K_total_113 : decode prog_7_method_34_code 113 = .ok (.iconst 1, 1) := by decide +kernel
theorem d_K_total_114 : decode prog_7_method_34_code 114 = .ok (.goto 4, 3) := by decide +kernel
theorem d_K_total_117 : decode prog_7_method_34_code 117 = .ok (.iconst 0, 1) := by decide +kernel
theorem d_K_total_118 : decode prog_7_method_34_code 118 = .ok (.iadd, 1) := by decide +kernel
theorem d_K_total_119 : decode prog_7_method_34_code 119 = .ok (.istore_n 2, 1) := by decide +kernel
theorem d_K_total_120 : decode prog_7_method_34_code 120 = .ok (.iinc 4 1, 3) := by decide +kernel
theorem d_K_total_123 : decode prog_7_method_34_code 123 = .ok (.goto (-38), 3) := by decide +kernel
theorem d_K_total_126 : decode prog_7_method_34_code 126 = .ok (.iinc 3 1, 3) := by decide +kernel
theorem d_K_total_129 : decode prog_7_method_34_code 129 = .ok (.goto (-55), 3) := by decide +kernel
theorem d_K_total_132 : decode prog_7_method_34_code 132 = .ok (.iload_n 2, 1) := by decide +kernel
theorem d_K_total_133 : decode prog_7_method_34_code 133 = .ok (.ireturn, 1) := by decide +kernel
theorem d_K_total_134 : decode prog_7_method_34_code 134 = .ok (.aload_n 0, 1) := by decide +kernel
theorem d_K_total_135 : decode prog_7_method_34_code 135 = .ok (.invokevirtual 90, 3) := by decide +kernel
theorem d_K_total_138 : decode prog_7_method_34_code 138 = .ok (.ifCond .eq 10, 3) := by decide +kernel
theorem d_K_total_141 : decode prog_7_method_34_code 141 = .ok (.aload_n 0, 1) := by decide +kernel
theorem d_K_total_142 : decode prog_7_method_34_code 142 = .ok (.getfield 87, 3) := by decide +kernel
theorem d_K_total_145 : decode prog_7_method_34_code 145 = .ok (.goto 4, 3) := by decide +kernel
theorem d_K_total_148 : decode prog_7_method_34_code 148 = .ok (.iconst 0, 1) := by decide +kernel
theorem d_K_total_149 : decode prog_7_method_34_code 149 = .ok (.ireturn, 1) := by decide +kernel
theorem d_K_total_150 : decode prog_7_method_34_code 150 = .ok (.iconst (-1), 1) := by decide +kernel
theorem d_K_total_151 : decode prog_7_method_34_code 151 = .ok (.ireturn, 1) := by decide +kernel
end
section
-- DECODE rows, laid by program
theorem d_JA_fill_0 : decode prog_15_method_103_code 0 = .ok (.iconst 0, 1) := by decide +kernel
theorem d_JA_fill_1 : decode prog_15_method_103_code 1 = .ok (.istore_n 2, 1) := by decide +kernel
theorem d_JA_fill_2 : decode prog_15_method_103_code 2 = .ok (.aload_n 0, 1) := by decide +kernel
theorem d_JA_fill_3 : decode prog_15_method_103_code 3 = .ok (.arraylength, 1) := by decide +kernel
theorem d_JA_fill_4 : decode prog_15_method_103_code 4 = .ok (.istore_n 3, 1) := by decide +kernel
theorem d_JA_fill_5 : decode prog_15_method_103_code 5 = .ok (.iload_n 2, 1) := by decide +kernel
theorem d_JA_fill_6 : decode prog_15_method_103_code 6 = .ok (.iload_n 3, 1) := by decide +kernel
theorem d_JA_fill_7 : decode prog_15_method_103_code 7 = .ok (.if_icmp .ge 13, 3) := by decide +kernel
theorem d_JA_fill_10 : decode prog_15_method_103_code 10 = .ok (.aload_n 0, 1) := by decide +kernel
theorem d_JA_fill_11 : decode prog_15_method_103_code 11 = .ok (.iload_n 2, 1) := by decide +kernel
theorem d_JA_fill_12 : decode prog_15_method_103_code 12 = .ok (.iload_n 1, 1) := by decide +kernel
theorem d_JA_fill_13 : decode prog_15_method_103_code 13 = .ok (.iastore, 1) := by decide +kernel
theorem d_JA_fill_14 : decode prog_15_method_103_code 14 = .ok (.iinc 2 1, 3) := by decide +kernel
theorem d_JA_fill_17 : decode prog_15_method_103_code 17 = .ok (.goto (-12), 3) := by decide +kernel
theorem d_JA_fill_20 : decode prog_15_method_103_code 20 = .ok (.return_, 1) := by decide +kernel
theorem d_JI_bitCount_0 : decode prog_10_method_49_code 0 = .ok (.iload_n 0, 1) := by decide +kernel
theorem d_JI_bitCount_1 : decode prog_10_method_49_code 1 = .ok (.iload_n 0, 1) := by decide +kernel
theorem d_JI_bitCount_2 : decode prog_10_method_49_code 2 = .ok (.iconst 1, 1) := by decide +kernel
theorem d_JI_bitCount_3 : decode prog_10_method_49_code 3 = .ok (.iushr, 1) := by decide +kernel
theorem d_JI_bitCount_4 : decode prog_10_method_49_code 4 = .ok (.ldc_w 265, 3) := by decide +kernel
theorem d_JI_bitCount_7 : decode prog_10_method_49_code 7 = .ok (.iand, 1) := by decide +kernel
theorem d_JI_bitCount_8 : decode prog_10_method_49_code 8 = .ok (.isub, 1) := by decide +kernel
theorem d_JI_bitCount_9 : decode prog_10_method_49_code 9 = .ok (.istore_n 0, 1) := by decide +kernel
theorem d_JI_bitCount_10 : decode prog_10_method_49_code 10 = .ok (.iload_n 0, 1) := by decide +kernel
theorem d_JI_bitCount_11 : decode prog_10_method_49_code 11 = .ok (.ldc_w 266, 3) := by decide +kernel
theorem d_JI_bitCount_14 : decode prog_10_method_49_code 14 = .ok (.iand, 1) := by decide +kernel
theorem d_JI_bitCount_15 : decode prog_10_method_49_code 15 = .ok (.iload_n 0, 1) := by decide +kernel
theorem d_JI_bitCount_16 : decode prog_10_method_49_code 16 = .ok (.iconst 2, 1) := by decide +kernel
theorem d_JI_bitCount_17 : decode prog_10_method_49_code 17 = .ok (.iushr, 1) := by decide +kernel
theorem d_JI_bitCount_18 : decode prog_10_method_49_code 18 = .ok (.ldc_w 266, 3) := by decide +kernel
theorem d_JI_bitCount_21 : decode prog_10_method_49_code 21 = .ok (.iand, 1) := by decide +kernel
theorem d_JI_bitCount_22 : decode prog_10_method_49_code 22 = .ok (.iadd, 1) := by decide +kernel
theorem d_JI_bitCount_23 : decode prog_10_method_49_code 23 = .ok (.istore_n 0, 1) := by decide +kernel
theorem d_JI_bitCount_24 : decode prog_10_method_49_code 24 = .ok (.iload_n 0, 1) := by decide +kernel
theorem d_JI_bitCount_25 : decode prog_10_method_49_code 25 = .ok (.iload_n 0, 1) := by decide +kernel
theorem d_JI_bitCount_26 : decode prog_10_method_49_code 26 = .ok (.iconst 4, 1) := by decide +kernel
theorem d_JI_bitCount_27 : decode prog_10_method_49_code 27 = .ok (.iushr, 1) := by decide +kernel
theorem d_JI_bitCount_28 : decode prog_10_method_49_code 28 = .ok (.iadd, 1) := by decide +kernel
theorem d_JI_bitCount_29 : decode prog_10_method_49_code 29 = .ok (.ldc_w 267, 3) := by decide +kernel
theorem d_JI_bitCount_32 : decode prog_10_method_49_code 32 = .ok (.iand, 1) := by decide +kernel
theorem d_JI_bitCount_33 : decode prog_10_method_49_code 33 = .ok (.istore_n 0, 1) := by decide +kernel
theorem d_JI_bitCount_34 : decode prog_10_method_49_code 34 = .ok (.iload_n 0, 1) := by decide +kernel
theorem d_JI_bitCount_35 : decode prog_10_method_49_code 35 = .ok (.iload_n 0, 1) := by decide +kernel
theorem d_JI_bitCount_36 : decode prog_10_method_49_code 36 = .ok (.bipush 8, 2) := by decide +kernel
theorem d_JI_bitCount_38 : decode prog_10_method_49_code 38 = .ok (.iushr, 1) := by decide +kernel
theorem d_JI_bitCount_39 : decode prog_10_method_49_code 39 = .ok (.iadd, 1) := by decide +kernel
theorem d_JI_bitCount_40 : decode prog_10_method_49_code 40 = .ok (.istore_n 0, 1) := by decide +kernel
theorem d_JI_bitCount_41 : decode prog_10_method_49_code 41 = .ok (.iload_n 0, 1) := by decide +kernel
theorem d_JI_bitCount_42 : decode prog_10_method_49_code 42 = .ok (.iload_n 0, 1) := by decide +kernel
theorem d_JI_bitCount_43 : decode prog_10_method_49_code 43 = .ok (.bipush 16, 2) := by decide +kernel
theorem d_JI_bitCount_45 : decode prog_10_method_49_code 45 = .ok (.iushr, 1) := by decide +kernel
theorem d_JI_bitCount_46 : decode prog_10_method_49_code 46 = .ok (.iadd, 1) := by decide +kernel
theorem d_JI_bitCount_47 : decode prog_10_method_49_code 47 = .ok (.istore_n 0, 1) := by decide +kernel
theorem d_JI_bitCount_48 : decode prog_10_method_49_code 48 = .ok (.iload_n 0, 1) := by decide +kernel
theorem d_JI_bitCount_49 : decode prog_10_method_49_code 49 = .ok (.bipush 63, 2) := by decide +kernel
theorem d_JI_bitCount_51 : decode prog_10_method_49_code 51 = .ok (.iand, 1) := by decide +kernel
theorem d_JI_bitCount_52 : decode prog_10_method_49_code 52 = .ok (.ireturn, 1) := by decide +kernel
theorem d_JI_numberOfTrailingZeros_0 : decode prog_10_method_48_code 0 = .ok (.iload_n 0, 1) := by decide +kernel
theorem d_JI_numberOfTrailingZeros_1 : decode prog_10_method_48_code 1 = .ok (.iconst (-1), 1) := by decide +kernel
theorem d_JI_numberOfTrailingZeros_2 : decode prog_10_method_48_code 2 = .ok (.ixor, 1) := by decide +kernel
theorem d_JI_numberOfTrailingZeros_3 : decode prog_10_method_48_code 3 = .ok (.iload_n 0, 1) := by decide +kernel
theorem d_JI_numberOfTrailingZeros_4 : decode prog_10_method_48_code 4 = .ok (.iconst 1, 1) := by decide +kernel
theorem d_JI_numberOfTrailingZeros_5 : decode prog_10_method_48_code 5 = .ok (.isub, 1) := by decide +kernel
theorem d_JI_numberOfTrailingZeros_6 : decode prog_10_method_48_code 6 = .ok (.iand, 1) := by decide +kernel
theorem d_JI_numberOfTrailingZeros_7 : decode prog_10_method_48_code 7 = .ok (.istore_n 0, 1) := by decide +kernel
theorem d_JI_numberOfTrailingZeros_8 : decode prog_10_method_48_code 8 = .ok (.iload_n 0, 1) := by decide +kernel
theorem d_JI_numberOfTrailingZeros_9 : decode prog_10_method_48_code 9 = .ok (.ifCond .gt 8, 3) := by decide +kernel
theorem d_JI_numberOfTrailingZeros_12 : decode prog_10_method_48_code 12 = .ok (.iload_n 0, 1) := by decide +kernel
theorem d_JI_numberOfTrailingZeros_13 : decode prog_10_method_48_code 13 = .ok (.bipush 32, 2) := by decide +kernel
theorem d_JI_numberOfTrailingZeros_15 : decode prog_10_method_48_code 15 = .ok (.iand, 1) := by decide +kernel
theorem d_JI_numberOfTrailingZeros_16 : decode prog_10_method_48_code 16 = .ok (.ireturn, 1) := by decide +kernel
theorem d_JI_numberOfTrailingZeros_17 : decode prog_10_method_48_code 17 = .ok (.iconst 1, 1) := by decide +kernel
theorem d_JI_numberOfTrailingZeros_18 : decode prog_10_method_48_code 18 = .ok (.istore_n 1, 1) := by decide +kernel
theorem d_JI_numberOfTrailingZeros_19 : decode prog_10_method_48_code 19 = .ok (.iload_n 0, 1) := by decide +kernel
theorem d_JI_numberOfTrailingZeros_20 : decode prog_10_method_48_code 20 = .ok (.ldc_w 264, 3) := by decide +kernel
theorem d_JI_numberOfTrailingZeros_23 : decode prog_10_method_48_code 23 = .ok (.if_icmp .le 11, 3) := by decide +kernel
theorem d_JI_numberOfTrailingZeros_26 : decode prog_10_method_48_code 26 = .ok (.iinc 1 16, 3) := by decide +kernel
theorem d_JI_numberOfTrailingZeros_29 : decode prog_10_method_48_code 29 = .ok (.iload_n 0, 1) := by decide +kernel
theorem d_JI_numberOfTrailingZeros_30 : decode prog_10_method_48_code 30 = .ok (.bipush 16, 2) := by decide +kernel
theorem d_JI_numberOfTrailingZeros_32 : decode prog_10_method_48_code 32 = .ok (.iushr, 1) := by decide +kernel
theorem d_JI_numberOfTrailingZeros_33 : decode prog_10_method_48_code 33 = .ok (.istore_n 0, 1) := by decide +kernel
theorem d_JI_numberOfTrailingZeros_34 : decode prog_10_method_48_code 34 = .ok (.iload_n 0, 1) := by decide +kernel
theorem d_JI_numberOfTrailingZeros_35 : decode prog_10_method_48_code 35 = .ok (.sipush 256, 3) := by decide +kernel
theorem d_JI_numberOfTrailingZeros_38 : decode prog_10_method_48_code 38 = .ok (.if_icmp .le 11, 3) := by decide +kernel
theorem d_JI_numberOfTrailingZeros_41 : decode prog_10_method_48_code 41 = .ok (.iinc 1 8, 3) := by decide +kernel
theorem d_JI_numberOfTrailingZeros_44 : decode prog_10_method_48_code 44 = .ok (.iload_n 0, 1) := by decide +kernel
theorem d_JI_numberOfTrailingZeros_45 : decode prog_10_method_48_code 45 = .ok (.bipush 8, 2) := by decide +kernel
theorem d_JI_numberOfTrailingZeros_47 : decode prog_10_method_48_code 47 = .ok (.iushr, 1) := by decide +kernel
theorem d_JI_numberOfTrailingZeros_48 : decode prog_10_method_48_code 48 = .ok (.istore_n 0, 1) := by decide +kernel
theorem d_JI_numberOfTrailingZeros_49 : decode prog_10_method_48_code 49 = .ok (.iload_n 0, 1) := by decide +kernel
theorem d_JI_numberOfTrailingZeros_50 : decode prog_10_method_48_code 50 = .ok (.bipush 16, 2) := by decide +kernel
theorem d_JI_numberOfTrailingZeros_52 : decode prog_10_method_48_code 52 = .ok (.if_icmp .le 10, 3) := by decide +kernel
theorem d_JI_numberOfTrailingZeros_55 : decode prog_10_method_48_code 55 = .ok (.iinc 1 4, 3) := by decide +kernel
theorem d_JI_numberOfTrailingZeros_58 : decode prog_10_method_48_code 58 = .ok (.iload_n 0, 1) := by decide +kernel
theorem d_JI_numberOfTrailingZeros_59 : decode prog_10_method_48_code 59 = .ok (.iconst 4, 1) := by decide +kernel
theorem d_JI_numberOfTrailingZeros_60 : decode prog_10_method_48_code 60 = .ok (.iushr, 1) := by decide +kernel
theorem d_JI_numberOfTrailingZeros_61 : decode prog_10_method_48_code 61 = .ok (.istore_n 0, 1) := by decide +kernel
theorem d_JI_numberOfTrailingZeros_62 : decode prog_10_method_48_code 62 = .ok (.iload_n 0, 1) := by decide +kernel
theorem d_JI_numberOfTrailingZeros_63 : decode prog_10_method_48_code 63 = .ok (.iconst 4, 1) := by decide +kernel
theorem d_JI_numberOfTrailingZeros_64 : decode prog_10_method_48_code 64 = .ok (.if_icmp .le 10, 3) := by decide +kernel
theorem d_JI_numberOfTrailingZeros_67 : decode prog_10_method_48_code 67 = .ok (.iinc 1 2, 3) := by decide +kernel
theorem d_JI_numberOfTrailingZeros_70 : decode prog_10_method_48_code 70 = .ok (.iload_n 0, 1) := by decide +kernel
theorem d_JI_numberOfTrailingZeros_71 : decode prog_10_method_48_code 71 = .ok (.iconst 2, 1) := by decide +kernel
theorem d_JI_numberOfTrailingZeros_72 : decode prog_10_method_48_code 72 = .ok (.iushr, 1) := by decide +kernel
theorem d_JI_numberOfTrailingZeros_73 : decode prog_10_method_48_code 73 = .ok (.istore_n 0, 1) := by decide +kernel
theorem d_JI_numberOfTrailingZeros_74 : decode prog_10_method_48_code 74 = .ok (.iload_n 1, 1) := by decide +kernel
theorem d_JI_numberOfTrailingZeros_75 : decode prog_10_method_48_code 75 = .ok (.iload_n 0, 1) := by decide +kernel
theorem d_JI_numberOfTrailingZeros_76 : decode prog_10_method_48_code 76 = .ok (.iconst 1, 1) := by decide +kernel
theorem d_JI_numberOfTrailingZeros_77 : decode prog_10_method_48_code 77 = .ok (.iushr, 1) := by decide +kernel
theorem d_JI_numberOfTrailingZeros_78 : decode prog_10_method_48_code 78 = .ok (.iadd, 1) := by decide +kernel
theorem d_JI_numberOfTrailingZeros_79 : decode prog_10_method_48_code 79 = .ok (.ireturn, 1) := by decide +kernel
theorem d_JM_max_0 : decode prog_11_method_65_code 0 = .ok (.iload_n 0, 1) := by decide +kernel
theorem d_JM_max_1 : decode prog_11_method_65_code 1 = .ok (.iload_n 1, 1) := by decide +kernel
theorem d_JM_max_2 : decode prog_11_method_65_code 2 = .ok (.if_icmp .lt 7, 3) := by decide +kernel
theorem d_JM_max_5 : decode prog_11_method_65_code 5 = .ok (.iload_n 0, 1) := by decide +kernel
theorem d_JM_max_6 : decode prog_11_method_65_code 6 = .ok (.goto 4, 3) := by decide +kernel
theorem d_JM_max_9 : decode prog_11_method_65_code 9 = .ok (.iload_n 1, 1) := by decide +kernel
theorem d_JM_max_10 : decode prog_11_method_65_code 10 = .ok (.ireturn, 1) := by decide +kernel
theorem d_JT_init_V3_0 : decode prog_14_method_1_code 0 = .ok (.aload_n 0, 1) := by decide +kernel
theorem d_JT_init_V3_1 : decode prog_14_method_1_code 1 = .ok (.invokespecial 1, 3) := by decide +kernel
theorem d_JT_init_V3_4 : decode prog_14_method_1_code 4 = .ok (.aload_n 0, 1) := by decide +kernel
theorem d_JT_init_V3_5 : decode prog_14_method_1_code 5 = .ok (.aload_n 0, 1) := by decide +kernel
theorem d_JT_init_V3_6 : decode prog_14_method_1_code 6 = .ok (.putfield 7, 3) := by decide +kernel
theorem d_JT_init_V3_9 : decode prog_14_method_1_code 9 = .ok (.aload_n 0, 1) := by decide +kernel
theorem d_JT_init_V3_10 : decode prog_14_method_1_code 10 = .ok (.getstatic 13, 3) := by decide +kernel
theorem d_JT_init_V3_13 : decode prog_14_method_1_code 13 = .ok (.putfield 17, 3) := by decide +kernel
theorem d_JT_init_V3_16 : decode prog_14_method_1_code 16 = .ok (.aload_n 0, 1) := by decide +kernel
theorem d_JT_init_V3_17 : decode prog_14_method_1_code 17 = .ok (.getstatic 20, 3) := by decide +kernel
theorem d_JT_init_V3_20 : decode prog_14_method_1_code 20 = .ok (.putfield 24, 3) := by decide +kernel
theorem d_JT_init_V3_23 : decode prog_14_method_1_code 23 = .ok (.aload_n 0, 1) := by decide +kernel
theorem d_JT_init_V3_24 : decode prog_14_method_1_code 24 = .ok (.invokevirtual 27, 3) := by decide +kernel
theorem d_JT_init_V3_27 : decode prog_14_method_1_code 27 = .ok (.pop, 1) := by decide +kernel
theorem d_JT_init_V3_28 : decode prog_14_method_1_code 28 = .ok (.return_, 1) := by decide +kernel
theorem d_JN_init_0 : decode prog_16_method_4_code 0 = .ok (.aload_n 0, 1) := by decide +kernel
theorem d_JN_init_1 : decode prog_16_method_4_code 1 = .ok (.aload_n 1, 1) := by decide +kernel
theorem d_JN_init_2 : decode prog_16_method_4_code 2 = .ok (.invokespecial 13, 3) := by decide +kernel
theorem d_JN_init_5 : decode prog_16_method_4_code 5 = .ok (.return_, 1) := by decide +kernel
theorem d_JR_init_0 : decode prog_12_method_2_code 0 = .ok (.aload_n 0, 1) := by decide +kernel
theorem d_JR_init_1 : decode prog_12_method_2_code 1 = .ok (.aload_n 1, 1) := by decide +kernel
theorem d_JR_init_2 : decode prog_12_method_2_code 2 = .ok (.invokespecial 7, 3) := by decide +kernel
theorem d_JR_init_5 : decode prog_12_method_2_code 5 = .ok (.return_, 1) := by decide +kernel
theorem d_JE_init_0 : decode prog_9_method_2_code 0 = .ok (.aload_n 0, 1) := by decide +kernel
theorem d_JE_init_1 : decode prog_9_method_2_code 1 = .ok (.aload_n 1, 1) := by decide +kernel
theorem d_JE_init_2 : decode prog_9_method_2_code 2 = .ok (.invokespecial 7, 3) := by decide +kernel
theorem d_JE_init_5 : decode prog_9_method_2_code 5 = .ok (.return_, 1) := by decide +kernel
theorem d_JT_init_L21_0 : decode prog_14_method_2_code 0 = .ok (.aload_n 0, 1) := by decide +kernel
theorem d_JT_init_L21_1 : decode prog_14_method_2_code 1 = .ok (.invokespecial 1, 3) := by decide +kernel
theorem d_JT_init_L21_4 : decode prog_14_method_2_code 4 = .ok (.aload_n 0, 1) := by decide +kernel
theorem d_JT_init_L21_5 : decode prog_14_method_2_code 5 = .ok (.aload_n 0, 1) := by decide +kernel
theorem d_JT_init_L21_6 : decode prog_14_method_2_code 6 = .ok (.putfield 7, 3) := by decide +kernel
theorem d_JT_init_L21_9 : decode prog_14_method_2_code 9 = .ok (.aload_n 0, 1) := by decide +kernel
theorem d_JT_init_L21_10 : decode prog_14_method_2_code 10 = .ok (.getstatic 13, 3) := by decide +kernel
theorem d_JT_init_L21_13 : decode prog_14_method_2_code 13 = .ok (.putfield 17, 3) := by decide +kernel
theorem d_JT_init_L21_16 : decode prog_14_method_2_code 16 = .ok (.aload_n 0, 1) := by decide +kernel
theorem d_JT_init_L21_17 : decode prog_14_method_2_code 17 = .ok (.getstatic 20, 3) := by decide +kernel
theorem d_JT_init_L21_20 : decode prog_14_method_2_code 20 = .ok (.putfield 24, 3) := by decide +kernel
theorem d_JT_init_L21_23 : decode prog_14_method_2_code 23 = .ok (.aload_n 0, 1) := by decide +kernel
theorem d_JT_init_L21_24 : decode prog_14_method_2_code 24 = .ok (.invokevirtual 27, 3) := by decide +kernel
theorem d_JT_init_L21_27 : decode prog_14_method_2_code 27 = .ok (.pop, 1) := by decide +kernel
theorem d_JT_init_L21_28 : decode prog_14_method_2_code 28 = .ok (.aload_n 0, 1) := by decide +kernel
theorem d_JT_init_L21_29 : decode prog_14_method_2_code 29 = .ok (.aload_n 1, 1) := by decide +kernel
theorem d_JT_init_L21_30 : decode prog_14_method_2_code 30 = .ok (.putfield 31, 3) := by decide +kernel
theorem d_JT_init_L21_33 : decode prog_14_method_2_code 33 = .ok (.return_, 1) := by decide +kernel
theorem d_JX_init_0 : decode prog_8_method_2_code 0 = .ok (.aload_n 0, 1) := by decide +kernel
theorem d_JX_init_1 : decode prog_8_method_2_code 1 = .ok (.aload_n 1, 1) := by decide +kernel
theorem d_JX_init_2 : decode prog_8_method_2_code 2 = .ok (.invokespecial 7, 3) := by decide +kernel
theorem d_JX_init_5 : decode prog_8_method_2_code 5 = .ok (.return_, 1) := by decide +kernel
theorem d_L_value_0 : decode method_3_code 0 = .ok (.aload_n 3, 1) := by decide +kernel
theorem d_L_value_1 : decode method_3_code 1 = .ok (.iconst 0, 1) := by decide +kernel
theorem d_L_value_2 : decode method_3_code 2 = .ok (.aload_n 0, 1) := by decide +kernel
theorem d_L_value_3 : decode method_3_code 3 = .ok (.iload_n 1, 1) := by decide +kernel
theorem d_L_value_4 : decode method_3_code 4 = .ok (.iload_n 2, 1) := by decide +kernel
theorem d_L_value_5 : decode method_3_code 5 = .ok (.invokevirtual 7, 3) := by decide +kernel
theorem d_L_value_8 : decode method_3_code 8 = .ok (.lastore, 1) := by decide +kernel
theorem d_L_value_9 : decode method_3_code 9 = .ok (.goto 11, 3) := by decide +kernel
theorem d_L_value_12 : decode method_3_code 12 = .ok (.astore 4, 2) := by decide +kernel
theorem d_L_value_14 : decode method_3_code 14 = .ok (.iconst 1, 1) := by decide +kernel
theorem d_L_value_15 : decode method_3_code 15 = .ok (.ireturn, 1) := by decide +kernel
theorem d_L_value_16 : decode method_3_code 16 = .ok (.astore 4, 2) := by decide +kernel
theorem d_L_value_18 : decode method_3_code 18 = .ok (.iconst 2, 1) := by decide +kernel
theorem d_L_value_19 : decode method_3_code 19 = .ok (.ireturn, 1) := by decide +kernel
theorem d_L_value_20 : decode method_3_code 20 = .ok (.iconst 0, 1) := by decide +kernel
theorem d_L_value_21 : decode method_3_code 21 = .ok (.ireturn, 1) := by decide +kernel
theorem d_L_slope_0 : decode method_4_code 0 = .ok (.aload 5, 2) := by decide +kernel
theorem d_L_slope_2 : decode method_4_code 2 = .ok (.iconst 0, 1) := by decide +kernel
theorem d_L_slope_3 : decode method_4_code 3 = .ok (.aload_n 0, 1) := by decide +kernel
theorem d_L_slope_4 : decode method_4_code 4 = .ok (.iload_n 1, 1) := by decide +kernel
theorem d_L_slope_5 : decode method_4_code 5 = .ok (.iload_n 2, 1) := by decide +kernel
theorem d_L_slope_6 : decode method_4_code 6 = .ok (.iload_n 3, 1) := by decide +kernel
theorem d_L_slope_7 : decode method_4_code 7 = .ok (.iload 4, 2) := by decide +kernel
theorem d_L_slope_9 : decode method_4_code 9 = .ok (.invokevirtual 17, 3) := by decide +kernel
theorem d_L_slope_12 : decode method_4_code 12 = .ok (.lastore, 1) := by decide +kernel
theorem d_L_slope_13 : decode method_4_code 13 = .ok (.goto 11, 3) := by decide +kernel
theorem d_L_slope_16 : decode method_4_code 16 = .ok (.astore 6, 2) := by decide +kernel
theorem d_L_slope_18 : decode method_4_code 18 = .ok (.iconst 1, 1) := by decide +kernel
theorem d_L_slope_19 : decode method_4_code 19 = .ok (.ireturn, 1) := by decide +kernel
theorem d_L_slope_20 : decode method_4_code 20 = .ok (.astore 6, 2) := by decide +kernel
theorem d_L_slope_22 : decode method_4_code 22 = .ok (.iconst 2, 1) := by decide +kernel
theorem d_L_slope_23 : decode method_4_code 23 = .ok (.ireturn, 1) := by decide +kernel
theorem d_L_slope_24 : decode method_4_code 24 = .ok (.iconst 0, 1) := by decide +kernel
theorem d_L_slope_25 : decode method_4_code 25 = .ok (.ireturn, 1) := by decide +kernel
theorem d_L_law_0 : decode code 0 = .ok (.new 8, 3) := by decide +kernel
theorem d_L_law_3 : decode code 3 = .ok (.dup, 1) := by decide +kernel
theorem d_L_law_4 : decode code 4 = .ok (.invokespecial 21, 3) := by decide +kernel
theorem d_L_law_7 : decode code 7 = .ok (.astore_n 1, 1) := by decide +kernel
theorem d_L_law_8 : decode code 8 = .ok (.new 22, 3) := by decide +kernel
theorem d_L_law_11 : decode code 11 = .ok (.dup, 1) := by decide +kernel
theorem d_L_law_12 : decode code 12 = .ok (.invokespecial 24, 3) := by decide +kernel
theorem d_L_law_15 : decode code 15 = .ok (.astore_n 2, 1) := by decide +kernel
theorem d_L_law_16 : decode code 16 = .ok (.iconst 1, 1) := by decide +kernel
theorem d_L_law_17 : decode code 17 = .ok (.newarray .long, 2) := by decide +kernel
theorem d_L_law_19 : decode code 19 = .ok (.astore_n 3, 1) := by decide +kernel
theorem d_L_law_20 : decode code 20 = .ok (.iconst 0, 1) := by decide +kernel
theorem d_L_law_21 : decode code 21 = .ok (.istore 4, 2) := by decide +kernel
theorem d_L_law_23 : decode code 23 = .ok (.iload 4, 2) := by decide +kernel
theorem d_L_law_25 : decode code 25 = .ok (.aload_n 0, 1) := by decide +kernel
theorem d_L_law_26 : decode code 26 = .ok (.arraylength, 1) := by decide +kernel
theorem d_L_law_27 : decode code 27 = .ok (.iconst 5, 1) := by decide +kernel
theorem d_L_law_28 : decode code 28 = .ok (.isub, 1) := by decide +kernel
theorem d_L_law_29 : decode code 29 = .ok (.if_icmp .gt 565, 3) := by decide +kernel
theorem d_L_law_32 : decode code 32 = .ok (.aload_n 0, 1) := by decide +kernel
theorem d_L_law_33 : decode code 33 = .ok (.iload 4, 2) := by decide +kernel
theorem d_L_law_35 : decode code 35 = .ok (.iaload, 1) := by decide +kernel
theorem d_L_law_36 : decode code 36 = .ok (.bipush 15, 2) := by decide +kernel
theorem d_L_law_38 : decode code 38 = .ok (.iand, 1) := by decide +kernel
theorem d_L_law_39 : decode code 39 = .ok (.tableswitch 549 0 13 #[69, 94, 143, 204, 215, 228, 295, 386, 399, 412, 449, 474, 499, 524], 69) := by decide +kernel
theorem d_L_law_108 : decode code 108 = .ok (.aload_n 1, 1) := by decide +kernel
theorem d_L_law_109 : decode code 109 = .ok (.aload_n 0, 1) := by decide +kernel
theorem d_L_law_110 : decode code 110 = .ok (.iload 4, 2) := by decide +kernel
theorem d_L_law_112 : decode code 112 = .ok (.iconst 1, 1) := by decide +kernel
theorem d_L_law_113 : decode code 113 = .ok (.iadd, 1) := by decide +kernel
theorem d_L_law_114 : decode code 114 = .ok (.iaload, 1) := by decide +kernel
theorem d_L_law_115 : decode code 115 = .ok (.invokevirtual 25, 3) := by decide +kernel
theorem d_L_law_118 : decode code 118 = .ok (.aload_n 2, 1) := by decide +kernel
theorem d_L_law_119 : decode code 119 = .ok (.aload_n 0, 1) := by decide +kernel
theorem d_L_law_120 : decode code 120 = .ok (.iload 4, 2) := by decide +kernel
theorem d_L_law_122 : decode code 122 = .ok (.iconst 1, 1) := by decide +kernel
theorem d_L_law_123 : decode code 123 = .ok (.iadd, 1) := by decide +kernel
theorem d_L_law_124 : decode code 124 = .ok (.iaload, 1) := by decide +kernel
theorem d_L_law_125 : decode code 125 = .ok (.invokevirtual 29, 3) := by decide +kernel
theorem d_L_law_128 : decode code 128 = .ok (.if_icmp .eq 460, 3) := by decide +kernel
theorem d_L_law_131 : decode code 131 = .ok (.iconst 0, 1) := by decide +kernel
theorem d_L_law_132 : decode code 132 = .ok (.ireturn, 1) := by decide +kernel
theorem d_L_law_133 : decode code 133 = .ok (.aload_n 1, 1) := by decide +kernel
theorem d_L_law_134 : decode code 134 = .ok (.aload_n 0, 1) := by decide +kernel
theorem d_L_law_135 : decode code 135 = .ok (.iload 4, 2) := by decide +kernel
theorem d_L_law_137 : decode code 137 = .ok (.iconst 1, 1) := by decide +kernel
theorem d_L_law_138 : decode code 138 = .ok (.iadd, 1) := by decide +kernel
theorem d_L_law_139 : decode code 139 = .ok (.iaload, 1) := by decide +kernel
theorem d_L_law_140 : decode code 140 = .ok (.aload_n 0, 1) := by decide +kernel
theorem d_L_law_141 : decode code 141 = .ok (.iload 4, 2) := by decide +kernel
theorem d_L_law_143 : decode code 143 = .ok (.iconst 2, 1) := by decide +kernel
theorem d_L_law_144 : decode code 144 = .ok (.iadd, 1) := by decide +kernel
theorem d_L_law_145 : decode code 145 = .ok (.iaload, 1) := by decide +kernel
theorem d_L_law_146 : decode code 146 = .ok (.aload_n 0, 1) := by decide +kernel
theorem d_L_law_147 : decode code 147 = .ok (.iload 4, 2) := by decide +kernel
theorem d_L_law_149 : decode code 149 = .ok (.iconst 3, 1) := by decide +kernel
theorem d_L_law_150 : decode code 150 = .ok (.iadd, 1) := by decide +kernel
theorem d_L_law_151 : decode code 151 = .ok (.iaload, 1) := by decide +kernel
theorem d_L_law_152 : decode code 152 = .ok (.invokevirtual 30, 3) := by decide +kernel
theorem d_L_law_155 : decode code 155 = .ok (.aload_n 2, 1) := by decide +kernel
theorem d_L_law_156 : decode code 156 = .ok (.aload_n 0, 1) := by decide +kernel
theorem d_L_law_157 : decode code 157 = .ok (.iload 4, 2) := by decide +kernel
theorem d_L_law_159 : decode code 159 = .ok (.iconst 1, 1) := by decide +kernel
theorem d_L_law_160 : decode code 160 = .ok (.iadd, 1) := by decide +kernel
theorem d_L_law_161 : decode code 161 = .ok (.iaload, 1) := by decide +kernel
theorem d_L_law_162 : decode code 162 = .ok (.aload_n 0, 1) := by decide +kernel
theorem d_L_law_163 : decode code 163 = .ok (.iload 4, 2) := by decide +kernel
theorem d_L_law_165 : decode code 165 = .ok (.iconst 2, 1) := by decide +kernel
theorem d_L_law_166 : decode code 166 = .ok (.iadd, 1) := by decide +kernel
theorem d_L_law_167 : decode code 167 = .ok (.iaload, 1) := by decide +kernel
theorem d_L_law_168 : decode code 168 = .ok (.aload_n 0, 1) := by decide +kernel
theorem d_L_law_169 : decode code 169 = .ok (.iload 4, 2) := by decide +kernel
theorem d_L_law_171 : decode code 171 = .ok (.iconst 3, 1) := by decide +kernel
theorem d_L_law_172 : decode code 172 = .ok (.iadd, 1) := by decide +kernel
theorem d_L_law_173 : decode code 173 = .ok (.iaload, 1) := by decide +kernel
theorem d_L_law_174 : decode code 174 = .ok (.invokevirtual 34, 3) := by decide +kernel
theorem d_L_law_177 : decode code 177 = .ok (.if_icmp .eq 411, 3) := by decide +kernel
theorem d_L_law_180 : decode code 180 = .ok (.iconst 0, 1) := by decide +kernel
theorem d_L_law_181 : decode code 181 = .ok (.ireturn, 1) := by decide +kernel
theorem d_L_law_182 : decode code 182 = .ok (.aload_n 1, 1) := by decide +kernel
theorem d_L_law_183 : decode code 183 = .ok (.aload_n 0, 1) := by decide +kernel
theorem d_L_law_184 : decode code 184 = .ok (.iload 4, 2) := by decide +kernel
theorem d_L_law_186 : decode code 186 = .ok (.iconst 1, 1) := by decide +kernel
theorem d_L_law_187 : decode code 187 = .ok (.iadd, 1) := by decide +kernel
theorem d_L_law_188 : decode code 188 = .ok (.iaload, 1) := by decide +kernel
theorem d_L_law_189 : decode code 189 = .ok (.aload_n 0, 1) := by decide +kernel
theorem d_L_law_190 : decode code 190 = .ok (.iload 4, 2) := by decide +kernel
theorem d_L_law_192 : decode code 192 = .ok (.iconst 2, 1) := by decide +kernel
theorem d_L_law_193 : decode code 193 = .ok (.iadd, 1) := by decide +kernel
theorem d_L_law_194 : decode code 194 = .ok (.iaload, 1) := by decide +kernel
theorem d_L_law_195 : decode code 195 = .ok (.aload_n 0, 1) := by decide +kernel
theorem d_L_law_196 : decode code 196 = .ok (.iload 4, 2) := by decide +kernel
theorem d_L_law_198 : decode code 198 = .ok (.iconst 3, 1) := by decide +kernel
theorem d_L_law_199 : decode code 199 = .ok (.iadd, 1) := by decide +kernel
theorem d_L_law_200 : decode code 200 = .ok (.iaload, 1) := by decide +kernel
theorem d_L_law_201 : decode code 201 = .ok (.aload_n 0, 1) := by decide +kernel
theorem d_L_law_202 : decode code 202 = .ok (.iload 4, 2) := by decide +kernel
theorem d_L_law_204 : decode code 204 = .ok (.iconst 4, 1) := by decide +kernel
theorem d_L_law_205 : decode code 205 = .ok (.iadd, 1) := by decide +kernel
theorem d_L_law_206 : decode code 206 = .ok (.iaload, 1) := by decide +kernel
theorem d_L_law_207 : decode code 207 = .ok (.invokevirtual 35, 3) := by decide +kernel
theorem d_L_law_210 : decode code 210 = .ok (.aload_n 2, 1) := by decide +kernel
theorem d_L_law_211 : decode code 211 = .ok (.aload_n 0, 1) := by decide +kernel
theorem d_L_law_212 : decode code 212 = .ok (.iload 4, 2) := by decide +kernel
theorem d_L_law_214 : decode code 214 = .ok (.iconst 1, 1) := by decide +kernel
theorem d_L_law_215 : decode code 215 = .ok (.iadd, 1) := by decide +kernel
theorem d_L_law_216 : decode code 216 = .ok (.iaload, 1) := by decide +kernel
theorem d_L_law_217 : decode code 217 = .ok (.aload_n 0, 1) := by decide +kernel
theorem d_L_law_218 : decode code 218 = .ok (.iload 4, 2) := by decide +kernel
theorem d_L_law_220 : decode code 220 = .ok (.iconst 2, 1) := by decide +kernel
theorem d_L_law_221 : decode code 221 = .ok (.iadd, 1) := by decide +kernel
theorem d_L_law_222 : decode code 222 = .ok (.iaload, 1) := by decide +kernel
theorem d_L_law_223 : decode code 223 = .ok (.aload_n 0, 1) := by decide +kernel
theorem d_L_law_224 : decode code 224 = .ok (.iload 4, 2) := by decide +kernel
theorem d_L_law_226 : decode code 226 = .ok (.iconst 3, 1) := by decide +kernel
theorem d_L_law_227 : decode code 227 = .ok (.iadd, 1) := by decide +kernel
theorem d_L_law_228 : decode code 228 = .ok (.iaload, 1) := by decide +kernel
theorem d_L_law_229 : decode code 229 = .ok (.aload_n 0, 1) := by decide +kernel
theorem d_L_law_230 : decode code 230 = .ok (.iload 4, 2) := by decide +kernel
theorem d_L_law_232 : decode code 232 = .ok (.iconst 4, 1) := by decide +kernel
theorem d_L_law_233 : decode code 233 = .ok (.iadd, 1) := by decide +kernel
theorem d_L_law_234 : decode code 234 = .ok (.iaload, 1) := by decide +kernel
theorem d_L_law_235 : decode code 235 = .ok (.invokevirtual 39, 3) := by decide +kernel
theorem d_L_law_238 : decode code 238 = .ok (.if_icmp .eq 350, 3) := by decide +kernel
theorem d_L_law_241 : decode code 241 = .ok (.iconst 0, 1) := by decide +kernel
theorem d_L_law_242 : decode code 242 = .ok (.ireturn, 1) := by decide +kernel
theorem d_L_law_243 : decode code 243 = .ok (.aload_n 1, 1) := by decide +kernel
theorem d_L_law_244 : decode code 244 = .ok (.invokevirtual 40, 3) := by decide +kernel
theorem d_L_law_247 : decode code 247 = .ok (.aload_n 2, 1) := by decide +kernel
theorem d_L_law_248 : decode code 248 = .ok (.invokevirtual 43, 3) := by decide +kernel
theorem d_L_law_251 : decode code 251 = .ok (.goto 337, 3) := by decide +kernel
theorem d_L_law_254 : decode code 254 = .ok (.aload_n 1, 1) := by decide +kernel
theorem d_L_law_255 : decode code 255 = .ok (.invokevirtual 44, 3) := by decide +kernel
theorem d_L_law_258 : decode code 258 = .ok (.aload_n 2, 1) := by decide +kernel
theorem d_L_law_259 : decode code 259 = .ok (.invokevirtual 48, 3) := by decide +kernel
theorem d_L_law_262 : decode code 262 = .ok (.if_icmp .eq 326, 3) := by decide +kernel
theorem d_L_law_265 : decode code 265 = .ok (.iconst 0, 1) := by decide +kernel
theorem d_L_law_266 : decode code 266 = .ok (.ireturn, 1) := by decide +kernel
theorem d_L_law_267 : decode code 267 = .ok (.aload_n 1, 1) := by decide +kernel
theorem d_L_law_268 : decode code 268 = .ok (.aload_n 0, 1) := by decide +kernel
theorem d_L_law_269 : decode code 269 = .ok (.iload 4, 2) := by decide +kernel
theorem d_L_law_271 : decode code 271 = .ok (.iconst 1, 1) := by decide +kernel
theorem d_L_law_272 : decode code 272 = .ok (.iadd, 1) := by decide +kernel
theorem d_L_law_273 : decode code 273 = .ok (.iaload, 1) := by decide +kernel
theorem d_L_law_274 : decode code 274 = .ok (.aload_n 0, 1) := by decide +kernel
theorem d_L_law_275 : decode code 275 = .ok (.iload 4, 2) := by decide +kernel
theorem d_L_law_277 : decode code 277 = .ok (.iconst 2, 1) := by decide +kernel
theorem d_L_law_278 : decode code 278 = .ok (.iadd, 1) := by decide +kernel
theorem d_L_law_279 : decode code 279 = .ok (.iaload, 1) := by decide +kernel
theorem d_L_law_280 : decode code 280 = .ok (.aload_n 3, 1) := by decide +kernel
theorem d_L_law_281 : decode code 281 = .ok (.invokestatic 49, 3) := by decide +kernel
theorem d_L_law_284 : decode code 284 = .ok (.istore 5, 2) := by decide +kernel
theorem d_L_law_286 : decode code 286 = .ok (.aload_n 2, 1) := by decide +kernel
theorem d_L_law_287 : decode code 287 = .ok (.aload_n 0, 1) := by decide +kernel
theorem d_L_law_288 : decode code 288 = .ok (.iload 4, 2) := by decide +kernel
theorem d_L_law_290 : decode code 290 = .ok (.iconst 1, 1) := by decide +kernel
theorem d_L_law_291 : decode code 291 = .ok (.iadd, 1) := by decide +kernel
theorem d_L_law_292 : decode code 292 = .ok (.iaload, 1) := by decide +kernel
theorem d_L_law_293 : decode code 293 = .ok (.aload_n 0, 1) := by decide +kernel
theorem d_L_law_294 : decode code 294 = .ok (.iload 4, 2) := by decide +kernel
theorem d_L_law_296 : decode code 296 = .ok (.iconst 2, 1) := by decide +kernel
theorem d_L_law_297 : decode code 297 = .ok (.iadd, 1) := by decide +kernel
theorem d_L_law_298 : decode code 298 = .ok (.iaload, 1) := by decide +kernel
theorem d_L_law_299 : decode code 299 = .ok (.invokevirtual 54, 3) := by decide +kernel
theorem d_L_law_302 : decode code 302 = .ok (.lstore 6, 2) := by decide +kernel
theorem d_L_law_304 : decode code 304 = .ok (.aload_n 2, 1) := by decide +kernel
theorem d_L_law_305 : decode code 305 = .ok (.invokevirtual 55, 3) := by decide +kernel
theorem d_L_law_308 : decode code 308 = .ok (.iload 5, 2) := by decide +kernel
theorem d_L_law_310 : decode code 310 = .ok (.if_icmp .eq 5, 3) := by decide +kernel
theorem d_L_law_313 : decode code 313 = .ok (.iconst 0, 1) := by decide +kernel
theorem d_L_law_314 : decode code 314 = .ok (.ireturn, 1) := by decide +kernel
theorem d_L_law_315 : decode code 315 = .ok (.iload 5, 2) := by decide +kernel
theorem d_L_law_317 : decode code 317 = .ok (.ifCond .ne 14, 3) := by decide +kernel
theorem d_L_law_320 : decode code 320 = .ok (.aload_n 3, 1) := by decide +kernel
theorem d_L_law_321 : decode code 321 = .ok (.iconst 0, 1) := by decide +kernel
theorem d_L_law_322 : decode code 322 = .ok (.laload, 1) := by decide +kernel
theorem d_L_law_323 : decode code 323 = .ok (.lload 6, 2) := by decide +kernel
theorem d_L_law_325 : decode code 325 = .ok (.lcmp, 1) := by decide +kernel
theorem d_L_law_326 : decode code 326 = .ok (.ifCond .eq 5, 3) := by decide +kernel
theorem d_L_law_329 : decode code 329 = .ok (.iconst 0, 1) := by decide +kernel
theorem d_L_law_330 : decode code 330 = .ok (.ireturn, 1) := by decide +kernel
theorem d_L_law_331 : decode code 331 = .ok (.goto 257, 3) := by decide +kernel
theorem d_L_law_334 : decode code 334 = .ok (.aload_n 1, 1) := by decide +kernel
theorem d_L_law_335 : decode code 335 = .ok (.aload_n 0, 1) := by decide +kernel
theorem d_L_law_336 : decode code 336 = .ok (.iload 4, 2) := by decide +kernel
theorem d_L_law_338 : decode code 338 = .ok (.iconst 1, 1) := by decide +kernel
theorem d_L_law_339 : decode code 339 = .ok (.iadd, 1) := by decide +kernel
theorem d_L_law_340 : decode code 340 = .ok (.iaload, 1) := by decide +kernel
theorem d_L_law_341 : decode code 341 = .ok (.aload_n 0, 1) := by decide +kernel
theorem d_L_law_342 : decode code 342 = .ok (.iload 4, 2) := by decide +kernel
theorem d_L_law_344 : decode code 344 = .ok (.iconst 2, 1) := by decide +kernel
theorem d_L_law_345 : decode code 345 = .ok (.iadd, 1) := by decide +kernel
theorem d_L_law_346 : decode code 346 = .ok (.iaload, 1) := by decide +kernel
theorem d_L_law_347 : decode code 347 = .ok (.aload_n 0, 1) := by decide +kernel
theorem d_L_law_348 : decode code 348 = .ok (.iload 4, 2) := by decide +kernel
theorem d_L_law_350 : decode code 350 = .ok (.iconst 3, 1) := by decide +kernel
theorem d_L_law_351 : decode code 351 = .ok (.iadd, 1) := by decide +kernel
theorem d_L_law_352 : decode code 352 = .ok (.iaload, 1) := by decide +kernel
theorem d_L_law_353 : decode code 353 = .ok (.aload_n 0, 1) := by decide +kernel
theorem d_L_law_354 : decode code 354 = .ok (.iload 4, 2) := by decide +kernel
theorem d_L_law_356 : decode code 356 = .ok (.iconst 4, 1) := by decide +kernel
theorem d_L_law_357 : decode code 357 = .ok (.iadd, 1) := by decide +kernel
theorem d_L_law_358 : decode code 358 = .ok (.iaload, 1) := by decide +kernel
theorem d_L_law_359 : decode code 359 = .ok (.aload_n 3, 1) := by decide +kernel
theorem d_L_law_360 : decode code 360 = .ok (.invokestatic 58, 3) := by decide +kernel
theorem d_L_law_363 : decode code 363 = .ok (.istore 5, 2) := by decide +kernel
theorem d_L_law_365 : decode code 365 = .ok (.aload_n 2, 1) := by decide +kernel
theorem d_L_law_366 : decode code 366 = .ok (.aload_n 0, 1) := by decide +kernel
theorem d_L_law_367 : decode code 367 = .ok (.iload 4, 2) := by decide +kernel
theorem d_L_law_369 : decode code 369 = .ok (.iconst 1, 1) := by decide +kernel
theorem d_L_law_370 : decode code 370 = .ok (.iadd, 1) := by decide +kernel
theorem d_L_law_371 : decode code 371 = .ok (.iaload, 1) := by decide +kernel
theorem d_L_law_372 : decode code 372 = .ok (.aload_n 0, 1) := by decide +kernel
theorem d_L_law_373 : decode code 373 = .ok (.iload 4, 2) := by decide +kernel
theorem d_L_law_375 : decode code 375 = .ok (.iconst 2, 1) := by decide +kernel
theorem d_L_law_376 : decode code 376 = .ok (.iadd, 1) := by decide +kernel
theorem d_L_law_377 : decode code 377 = .ok (.iaload, 1) := by decide +kernel
theorem d_L_law_378 : decode code 378 = .ok (.aload_n 0, 1) := by decide +kernel
theorem d_L_law_379 : decode code 379 = .ok (.iload 4, 2) := by decide +kernel
theorem d_L_law_381 : decode code 381 = .ok (.iconst 3, 1) := by decide +kernel
theorem d_L_law_382 : decode code 382 = .ok (.iadd, 1) := by decide +kernel
theorem d_L_law_383 : decode code 383 = .ok (.iaload, 1) := by decide +kernel
theorem d_L_law_384 : decode code 384 = .ok (.aload_n 0, 1) := by decide +kernel
theorem d_L_law_385 : decode code 385 = .ok (.iload 4, 2) := by decide +kernel
theorem d_L_law_387 : decode code 387 = .ok (.iconst 4, 1) := by decide +kernel
theorem d_L_law_388 : decode code 388 = .ok (.iadd, 1) := by decide +kernel
theorem d_L_law_389 : decode code 389 = .ok (.iaload, 1) := by decide +kernel
theorem d_L_law_390 : decode code 390 = .ok (.invokevirtual 61, 3) := by decide +kernel
theorem d_L_law_393 : decode code 393 = .ok (.lstore 6, 2) := by decide +kernel
theorem d_L_law_395 : decode code 395 = .ok (.aload_n 2, 1) := by decide +kernel
theorem d_L_law_396 : decode code 396 = .ok (.invokevirtual 55, 3) := by decide +kernel
theorem d_L_law_399 : decode code 399 = .ok (.iload 5, 2) := by decide +kernel
theorem d_L_law_401 : decode code 401 = .ok (.if_icmp .eq 5, 3) := by decide +kernel
theorem d_L_law_404 : decode code 404 = .ok (.iconst 0, 1) := by decide +kernel
theorem d_L_law_405 : decode code 405 = .ok (.ireturn, 1) := by decide +kernel
theorem d_L_law_406 : decode code 406 = .ok (.iload 5, 2) := by decide +kernel
theorem d_L_law_408 : decode code 408 = .ok (.ifCond .ne 14, 3) := by decide +kernel
theorem d_L_law_411 : decode code 411 = .ok (.aload_n 3, 1) := by decide +kernel
theorem d_L_law_412 : decode code 412 = .ok (.iconst 0, 1) := by decide +kernel
theorem d_L_law_413 : decode code 413 = .ok (.laload, 1) := by decide +kernel
theorem d_L_law_414 : decode code 414 = .ok (.lload 6, 2) := by decide +kernel
theorem d_L_law_416 : decode code 416 = .ok (.lcmp, 1) := by decide +kernel
theorem d_L_law_417 : decode code 417 = .ok (.ifCond .eq 5, 3) := by decide +kernel
theorem d_L_law_420 : decode code 420 = .ok (.iconst 0, 1) := by decide +kernel
theorem d_L_law_421 : decode code 421 = .ok (.ireturn, 1) := by decide +kernel
theorem d_L_law_422 : decode code 422 = .ok (.goto 166, 3) := by decide +kernel
theorem d_L_law_425 : decode code 425 = .ok (.aload_n 1, 1) := by decide +kernel
theorem d_L_law_426 : decode code 426 = .ok (.invokevirtual 62, 3) := by decide +kernel
theorem d_L_law_429 : decode code 429 = .ok (.aload_n 2, 1) := by decide +kernel
theorem d_L_law_430 : decode code 430 = .ok (.invokevirtual 65, 3) := by decide +kernel
theorem d_L_law_433 : decode code 433 = .ok (.if_icmp .eq 155, 3) := by decide +kernel
theorem d_L_law_436 : decode code 436 = .ok (.iconst 0, 1) := by decide +kernel
theorem d_L_law_437 : decode code 437 = .ok (.ireturn, 1) := by decide +kernel
theorem d_L_law_438 : decode code 438 = .ok (.aload_n 1, 1) := by decide +kernel
theorem d_L_law_439 : decode code 439 = .ok (.invokevirtual 66, 3) := by decide +kernel
theorem d_L_law_442 : decode code 442 = .ok (.aload_n 2, 1) := by decide +kernel
theorem d_L_law_443 : decode code 443 = .ok (.invokevirtual 69, 3) := by decide +kernel
theorem d_L_law_446 : decode code 446 = .ok (.if_icmp .eq 142, 3) := by decide +kernel
theorem d_L_law_449 : decode code 449 = .ok (.iconst 0, 1) := by decide +kernel
theorem d_L_law_450 : decode code 450 = .ok (.ireturn, 1) := by decide +kernel
theorem d_L_law_451 : decode code 451 = .ok (.aload_n 1, 1) := by decide +kernel
theorem d_L_law_452 : decode code 452 = .ok (.aload_n 0, 1) := by decide +kernel
theorem d_L_law_453 : decode code 453 = .ok (.iload 4, 2) := by decide +kernel
theorem d_L_law_455 : decode code 455 = .ok (.iconst 1, 1) := by decide +kernel
theorem d_L_law_456 : decode code 456 = .ok (.iadd, 1) := by decide +kernel
theorem d_L_law_457 : decode code 457 = .ok (.iaload, 1) := by decide +kernel
theorem d_L_law_458 : decode code 458 = .ok (.aload_n 0, 1) := by decide +kernel
theorem d_L_law_459 : decode code 459 = .ok (.iload 4, 2) := by decide +kernel
theorem d_L_law_461 : decode code 461 = .ok (.iconst 2, 1) := by decide +kernel
theorem d_L_law_462 : decode code 462 = .ok (.iadd, 1) := by decide +kernel
theorem d_L_law_463 : decode code 463 = .ok (.iaload, 1) := by decide +kernel
theorem d_L_law_464 : decode code 464 = .ok (.invokevirtual 70, 3) := by decide +kernel
theorem d_L_law_467 : decode code 467 = .ok (.aload_n 2, 1) := by decide +kernel
theorem d_L_law_468 : decode code 468 = .ok (.aload_n 0, 1) := by decide +kernel
theorem d_L_law_469 : decode code 469 = .ok (.iload 4, 2) := by decide +kernel
theorem d_L_law_471 : decode code 471 = .ok (.iconst 1, 1) := by decide +kernel
theorem d_L_law_472 : decode code 472 = .ok (.iadd, 1) := by decide +kernel
theorem d_L_law_473 : decode code 473 = .ok (.iaload, 1) := by decide +kernel
theorem d_L_law_474 : decode code 474 = .ok (.aload_n 0, 1) := by decide +kernel
theorem d_L_law_475 : decode code 475 = .ok (.iload 4, 2) := by decide +kernel
theorem d_L_law_477 : decode code 477 = .ok (.iconst 2, 1) := by decide +kernel
theorem d_L_law_478 : decode code 478 = .ok (.iadd, 1) := by decide +kernel
theorem d_L_law_479 : decode code 479 = .ok (.iaload, 1) := by decide +kernel
theorem d_L_law_480 : decode code 480 = .ok (.invokevirtual 74, 3) := by decide +kernel
theorem d_L_law_483 : decode code 483 = .ok (.if_icmp .eq 105, 3) := by decide +kernel
theorem d_L_law_486 : decode code 486 = .ok (.iconst 0, 1) := by decide +kernel
theorem d_L_law_487 : decode code 487 = .ok (.ireturn, 1) := by decide +kernel
theorem d_L_law_488 : decode code 488 = .ok (.aload_n 1, 1) := by decide +kernel
theorem d_L_law_489 : decode code 489 = .ok (.aload_n 0, 1) := by decide +kernel
theorem d_L_law_490 : decode code 490 = .ok (.iload 4, 2) := by decide +kernel
theorem d_L_law_492 : decode code 492 = .ok (.iconst 1, 1) := by decide +kernel
theorem d_L_law_493 : decode code 493 = .ok (.iadd, 1) := by decide +kernel
theorem d_L_law_494 : decode code 494 = .ok (.iaload, 1) := by decide +kernel
theorem d_L_law_495 : decode code 495 = .ok (.invokevirtual 75, 3) := by decide +kernel
theorem d_L_law_498 : decode code 498 = .ok (.aload_n 2, 1) := by decide +kernel
theorem d_L_law_499 : decode code 499 = .ok (.aload_n 0, 1) := by decide +kernel
theorem d_L_law_500 : decode code 500 = .ok (.iload 4, 2) := by decide +kernel
theorem d_L_law_502 : decode code 502 = .ok (.iconst 1, 1) := by decide +kernel
theorem d_L_law_503 : decode code 503 = .ok (.iadd, 1) := by decide +kernel
theorem d_L_law_504 : decode code 504 = .ok (.iaload, 1) := by decide +kernel
theorem d_L_law_505 : decode code 505 = .ok (.invokevirtual 78, 3) := by decide +kernel
theorem d_L_law_508 : decode code 508 = .ok (.if_icmp .eq 80, 3) := by decide +kernel
theorem d_L_law_511 : decode code 511 = .ok (.iconst 0, 1) := by decide +kernel
theorem d_L_law_512 : decode code 512 = .ok (.ireturn, 1) := by decide +kernel
theorem d_L_law_513 : decode code 513 = .ok (.aload_n 1, 1) := by decide +kernel
theorem d_L_law_514 : decode code 514 = .ok (.aload_n 0, 1) := by decide +kernel
theorem d_L_law_515 : decode code 515 = .ok (.iload 4, 2) := by decide +kernel
theorem d_L_law_517 : decode code 517 = .ok (.iconst 1, 1) := by decide +kernel
theorem d_L_law_518 : decode code 518 = .ok (.iadd, 1) := by decide +kernel
theorem d_L_law_519 : decode code 519 = .ok (.iaload, 1) := by decide +kernel
theorem d_L_law_520 : decode code 520 = .ok (.invokevirtual 79, 3) := by decide +kernel
theorem d_L_law_523 : decode code 523 = .ok (.aload_n 2, 1) := by decide +kernel
theorem d_L_law_524 : decode code 524 = .ok (.aload_n 0, 1) := by decide +kernel
theorem d_L_law_525 : decode code 525 = .ok (.iload 4, 2) := by decide +kernel
theorem d_L_law_527 : decode code 527 = .ok (.iconst 1, 1) := by decide +kernel
theorem d_L_law_528 : decode code 528 = .ok (.iadd, 1) := by decide +kernel
theorem d_L_law_529 : decode code 529 = .ok (.iaload, 1) := by decide +kernel
theorem d_L_law_530 : decode code 530 = .ok (.invokevirtual 82, 3) := by decide +kernel
theorem d_L_law_533 : decode code 533 = .ok (.if_icmp .eq 55, 3) := by decide +kernel
theorem d_L_law_536 : decode code 536 = .ok (.iconst 0, 1) := by decide +kernel
theorem d_L_law_537 : decode code 537 = .ok (.ireturn, 1) := by decide +kernel
theorem d_L_law_538 : decode code 538 = .ok (.aload_n 1, 1) := by decide +kernel
theorem d_L_law_539 : decode code 539 = .ok (.aload_n 0, 1) := by decide +kernel
theorem d_L_law_540 : decode code 540 = .ok (.iload 4, 2) := by decide +kernel
theorem d_L_law_542 : decode code 542 = .ok (.iconst 1, 1) := by decide +kernel
theorem d_L_law_543 : decode code 543 = .ok (.iadd, 1) := by decide +kernel
theorem d_L_law_544 : decode code 544 = .ok (.iaload, 1) := by decide +kernel
theorem d_L_law_545 : decode code 545 = .ok (.invokevirtual 83, 3) := by decide +kernel
theorem d_L_law_548 : decode code 548 = .ok (.aload_n 2, 1) := by decide +kernel
theorem d_L_law_549 : decode code 549 = .ok (.aload_n 0, 1) := by decide +kernel
theorem d_L_law_550 : decode code 550 = .ok (.iload 4, 2) := by decide +kernel
theorem d_L_law_552 : decode code 552 = .ok (.iconst 1, 1) := by decide +kernel
theorem d_L_law_553 : decode code 553 = .ok (.iadd, 1) := by decide +kernel
theorem d_L_law_554 : decode code 554 = .ok (.iaload, 1) := by decide +kernel
theorem d_L_law_555 : decode code 555 = .ok (.invokevirtual 86, 3) := by decide +kernel
theorem d_L_law_558 : decode code 558 = .ok (.if_icmp .eq 30, 3) := by decide +kernel
theorem d_L_law_561 : decode code 561 = .ok (.iconst 0, 1) := by decide +kernel
theorem d_L_law_562 : decode code 562 = .ok (.ireturn, 1) := by decide +kernel
theorem d_L_law_563 : decode code 563 = .ok (.aload_n 1, 1) := by decide +kernel
theorem d_L_law_564 : decode code 564 = .ok (.aload_n 0, 1) := by decide +kernel
theorem d_L_law_565 : decode code 565 = .ok (.iload 4, 2) := by decide +kernel
theorem d_L_law_567 : decode code 567 = .ok (.iconst 1, 1) := by decide +kernel
theorem d_L_law_568 : decode code 568 = .ok (.iadd, 1) := by decide +kernel
theorem d_L_law_569 : decode code 569 = .ok (.iaload, 1) := by decide +kernel
theorem d_L_law_570 : decode code 570 = .ok (.invokevirtual 87, 3) := by decide +kernel
theorem d_L_law_573 : decode code 573 = .ok (.aload_n 2, 1) := by decide +kernel
theorem d_L_law_574 : decode code 574 = .ok (.aload_n 0, 1) := by decide +kernel
theorem d_L_law_575 : decode code 575 = .ok (.iload 4, 2) := by decide +kernel
theorem d_L_law_577 : decode code 577 = .ok (.iconst 1, 1) := by decide +kernel
theorem d_L_law_578 : decode code 578 = .ok (.iadd, 1) := by decide +kernel
theorem d_L_law_579 : decode code 579 = .ok (.iaload, 1) := by decide +kernel
theorem d_L_law_580 : decode code 580 = .ok (.invokevirtual 90, 3) := by decide +kernel
theorem d_L_law_583 : decode code 583 = .ok (.if_icmp .eq 5, 3) := by decide +kernel
theorem d_L_law_586 : decode code 586 = .ok (.iconst 0, 1) := by decide +kernel
theorem d_L_law_587 : decode code 587 = .ok (.ireturn, 1) := by decide +kernel
theorem d_L_law_588 : decode code 588 = .ok (.iinc 4 5, 3) := by decide +kernel
theorem d_L_law_591 : decode code 591 = .ok (.goto (-568), 3) := by decide +kernel
theorem d_L_law_594 : decode code 594 = .ok (.iconst 1, 1) := by decide +kernel
theorem d_L_law_595 : decode code 595 = .ok (.ireturn, 1) := by decide +kernel
end
section
-- DECODE rows, laid by program
theorem d_N_init_0 : decode prog_1_method_1_code 0 = .ok (.aload_n 0, 1) := by decide +kernel
theorem d_N_init_1 : decode prog_1_method_1_code 1 = .ok (.invokespecial 3, 3) := by decide +kernel
theorem d_N_init_4 : decode prog_1_method_1_code 4 = .ok (.aload_n 0, 1) := by decide +kernel
theorem d_N_init_5 : decode prog_1_method_1_code 5 = .ok (.bipush 10, 2) := by decide +kernel
theorem d_N_init_7 : decode prog_1_method_1_code 7 = .ok (.anewarray 9, 3) := by decide +kernel
theorem d_N_init_10 : decode prog_1_method_1_code 10 = .ok (.putfield 11, 3) := by decide +kernel
theorem d_N_init_13 : decode prog_1_method_1_code 13 = .ok (.iconst 0, 1) := by decide +kernel
theorem d_N_init_14 : decode prog_1_method_1_code 14 = .ok (.istore_n 1, 1) := by decide +kernel
theorem d_N_init_15 : decode prog_1_method_1_code 15 = .ok (.iload_n 1, 1) := by decide +kernel
theorem d_N_init_16 : decode prog_1_method_1_code 16 = .ok (.bipush 10, 2) := by decide +kernel
theorem d_N_init_18 : decode prog_1_method_1_code 18 = .ok (.if_icmp .ge 22, 3) := by decide +kernel
theorem d_N_init_21 : decode prog_1_method_1_code 21 = .ok (.aload_n 0, 1) := by decide +kernel
theorem d_N_init_22 : decode prog_1_method_1_code 22 = .ok (.getfield 11, 3) := by decide +kernel
theorem d_N_init_25 : decode prog_1_method_1_code 25 = .ok (.iload_n 1, 1) := by decide +kernel
theorem d_N_init_26 : decode prog_1_method_1_code 26 = .ok (.new 9, 3) := by decide +kernel
theorem d_N_init_29 : decode prog_1_method_1_code 29 = .ok (.dup, 1) := by decide +kernel
theorem d_N_init_30 : decode prog_1_method_1_code 30 = .ok (.invokespecial 15, 3) := by decide +kernel
theorem d_N_init_33 : decode prog_1_method_1_code 33 = .ok (.aastore, 1) := by decide +kernel
theorem d_N_init_34 : decode prog_1_method_1_code 34 = .ok (.iinc 1 1, 3) := by decide +kernel
theorem d_N_init_37 : decode prog_1_method_1_code 37 = .ok (.goto (-22), 3) := by decide +kernel
theorem d_N_init_40 : decode prog_1_method_1_code 40 = .ok (.aload_n 0, 1) := by decide +kernel
theorem d_N_init_41 : decode prog_1_method_1_code 41 = .ok (.bipush 20, 2) := by decide +kernel
theorem d_N_init_43 : decode prog_1_method_1_code 43 = .ok (.newarray .int, 2) := by decide +kernel
theorem d_N_init_45 : decode prog_1_method_1_code 45 = .ok (.putfield 16, 3) := by decide +kernel
theorem d_N_init_48 : decode prog_1_method_1_code 48 = .ok (.aload_n 0, 1) := by decide +kernel
theorem d_N_init_49 : decode prog_1_method_1_code 49 = .ok (.bipush 10, 2) := by decide +kernel
theorem d_N_init_51 : decode prog_1_method_1_code 51 = .ok (.newarray .int, 2) := by decide +kernel
theorem d_N_init_53 : decode prog_1_method_1_code 53 = .ok (.putfield 20, 3) := by decide +kernel
theorem d_N_init_56 : decode prog_1_method_1_code 56 = .ok (.aload_n 0, 1) := by decide +kernel
theorem d_N_init_57 : decode prog_1_method_1_code 57 = .ok (.sipush 400, 3) := by decide +kernel
theorem d_N_init_60 : decode prog_1_method_1_code 60 = .ok (.newarray .int, 2) := by decide +kernel
theorem d_N_init_62 : decode prog_1_method_1_code 62 = .ok (.putfield 23, 3) := by decide +kernel
theorem d_N_init_65 : decode prog_1_method_1_code 65 = .ok (.aload_n 0, 1) := by decide +kernel
theorem d_N_init_66 : decode prog_1_method_1_code 66 = .ok (.new 26, 3) := by decide +kernel
theorem d_N_init_69 : decode prog_1_method_1_code 69 = .ok (.dup, 1) := by decide +kernel
theorem d_N_init_70 : decode prog_1_method_1_code 70 = .ok (.invokespecial 28, 3) := by decide +kernel
theorem d_N_init_73 : decode prog_1_method_1_code 73 = .ok (.putfield 29, 3) := by decide +kernel
theorem d_N_init_76 : decode prog_1_method_1_code 76 = .ok (.aload_n 0, 1) := by decide +kernel
theorem d_N_init_77 : decode prog_1_method_1_code 77 = .ok (.new 26, 3) := by decide +kernel
theorem d_N_init_80 : decode prog_1_method_1_code 80 = .ok (.dup, 1) := by decide +kernel
theorem d_N_init_81 : decode prog_1_method_1_code 81 = .ok (.invokespecial 28, 3) := by decide +kernel
theorem d_N_init_84 : decode prog_1_method_1_code 84 = .ok (.putfield 33, 3) := by decide +kernel
theorem d_N_init_87 : decode prog_1_method_1_code 87 = .ok (.aload_n 0, 1) := by decide +kernel
theorem d_N_init_88 : decode prog_1_method_1_code 88 = .ok (.new 36, 3) := by decide +kernel
theorem d_N_init_91 : decode prog_1_method_1_code 91 = .ok (.dup, 1) := by decide +kernel
theorem d_N_init_92 : decode prog_1_method_1_code 92 = .ok (.invokespecial 38, 3) := by decide +kernel
theorem d_N_init_95 : decode prog_1_method_1_code 95 = .ok (.putfield 39, 3) := by decide +kernel
theorem d_N_init_98 : decode prog_1_method_1_code 98 = .ok (.aload_n 0, 1) := by decide +kernel
theorem d_N_init_99 : decode prog_1_method_1_code 99 = .ok (.new 43, 3) := by decide +kernel
theorem d_N_init_102 : decode prog_1_method_1_code 102 = .ok (.dup, 1) := by decide +kernel
theorem d_N_init_103 : decode prog_1_method_1_code 103 = .ok (.invokespecial 45, 3) := by decide +kernel
theorem d_N_init_106 : decode prog_1_method_1_code 106 = .ok (.putfield 46, 3) := by decide +kernel
theorem d_N_init_109 : decode prog_1_method_1_code 109 = .ok (.aload_n 0, 1) := by decide +kernel
theorem d_N_init_110 : decode prog_1_method_1_code 110 = .ok (.invokevirtual 50, 3) := by decide +kernel
theorem d_N_init_113 : decode prog_1_method_1_code 113 = .ok (.return_, 1) := by decide +kernel
theorem d_N_forgetOrders_0 : decode prog_1_method_23_code 0 = .ok (.aload_n 0, 1) := by decide +kernel
theorem d_N_forgetOrders_1 : decode prog_1_method_23_code 1 = .ok (.iconst 0, 1) := by decide +kernel
theorem d_N_forgetOrders_2 : decode prog_1_method_23_code 2 = .ok (.putfield 180, 3) := by decide +kernel
theorem d_N_forgetOrders_5 : decode prog_1_method_23_code 5 = .ok (.aload_n 0, 1) := by decide +kernel
theorem d_N_forgetOrders_6 : decode prog_1_method_23_code 6 = .ok (.iconst (-1), 1) := by decide +kernel
theorem d_N_forgetOrders_7 : decode prog_1_method_23_code 7 = .ok (.putfield 184, 3) := by decide +kernel
theorem d_N_forgetOrders_10 : decode prog_1_method_23_code 10 = .ok (.aload_n 0, 1) := by decide +kernel
theorem d_N_forgetOrders_11 : decode prog_1_method_23_code 11 = .ok (.getfield 23, 3) := by decide +kernel
theorem d_N_forgetOrders_14 : decode prog_1_method_23_code 14 = .ok (.iconst (-1), 1) := by decide +kernel
theorem d_N_forgetOrders_15 : decode prog_1_method_23_code 15 = .ok (.invokestatic 97, 3) := by decide +kernel
theorem d_N_forgetOrders_18 : decode prog_1_method_23_code 18 = .ok (.return_, 1) := by decide +kernel
theorem d_N_tensor_0 : decode prog_1_method_2_code 0 = .ok (.iload_n 1, 1) := by decide +kernel
theorem d_N_tensor_1 : decode prog_1_method_2_code 1 = .ok (.ifCond .lt 18, 3) := by decide +kernel
theorem d_N_tensor_4 : decode prog_1_method_2_code 4 = .ok (.iload_n 1, 1) := by decide +kernel
theorem d_N_tensor_5 : decode prog_1_method_2_code 5 = .ok (.bipush 6, 2) := by decide +kernel
theorem d_N_tensor_7 : decode prog_1_method_2_code 7 = .ok (.if_icmp .gt 12, 3) := by decide +kernel
theorem d_N_tensor_10 : decode prog_1_method_2_code 10 = .ok (.aload_n 0, 1) := by decide +kernel
theorem d_N_tensor_11 : decode prog_1_method_2_code 11 = .ok (.getfield 53, 3) := by decide +kernel
theorem d_N_tensor_14 : decode prog_1_method_2_code 14 = .ok (.bipush 10, 2) := by decide +kernel
theorem d_N_tensor_16 : decode prog_1_method_2_code 16 = .ok (.if_icmp .lt 5, 3) := by decide +kernel
theorem d_N_tensor_19 : decode prog_1_method_2_code 19 = .ok (.iconst (-1), 1) := by decide +kernel
theorem d_N_tensor_20 : decode prog_1_method_2_code 20 = .ok (.ireturn, 1) := by decide +kernel
theorem d_N_tensor_21 : decode prog_1_method_2_code 21 = .ok (.aload_n 0, 1) := by decide +kernel
theorem d_N_tensor_22 : decode prog_1_method_2_code 22 = .ok (.getfield 11, 3) := by decide +kernel
theorem d_N_tensor_25 : decode prog_1_method_2_code 25 = .ok (.aload_n 0, 1) := by decide +kernel
theorem d_N_tensor_26 : decode prog_1_method_2_code 26 = .ok (.getfield 53, 3) := by decide +kernel
theorem d_N_tensor_29 : decode prog_1_method_2_code 29 = .ok (.aaload, 1) := by decide +kernel
theorem d_N_tensor_30 : decode prog_1_method_2_code 30 = .ok (.iload_n 1, 1) := by decide +kernel
theorem d_N_tensor_31 : decode prog_1_method_2_code 31 = .ok (.invokevirtual 57, 3) := by decide +kernel
theorem d_N_tensor_34 : decode prog_1_method_2_code 34 = .ok (.aload_n 0, 1) := by decide +kernel
theorem d_N_tensor_35 : decode prog_1_method_2_code 35 = .ok (.dup, 1) := by decide +kernel
theorem d_N_tensor_36 : decode prog_1_method_2_code 36 = .ok (.getfield 53, 3) := by decide +kernel
theorem d_N_tensor_39 : decode prog_1_method_2_code 39 = .ok (.iconst 1, 1) := by decide +kernel
theorem d_N_tensor_40 : decode prog_1_method_2_code 40 = .ok (.iadd, 1) := by decide +kernel
theorem d_N_tensor_41 : decode prog_1_method_2_code 41 = .ok (.putfield 53, 3) := by decide +kernel
theorem d_N_tensor_44 : decode prog_1_method_2_code 44 = .ok (.aload_n 0, 1) := by decide +kernel
theorem d_N_tensor_45 : decode prog_1_method_2_code 45 = .ok (.dup, 1) := by decide +kernel
theorem d_N_tensor_46 : decode prog_1_method_2_code 46 = .ok (.getfield 61, 3) := by decide +kernel
theorem d_N_tensor_49 : decode prog_1_method_2_code 49 = .ok (.iload_n 1, 1) := by decide +kernel
theorem d_N_tensor_50 : decode prog_1_method_2_code 50 = .ok (.iadd, 1) := by decide +kernel
theorem d_N_tensor_51 : decode prog_1_method_2_code 51 = .ok (.putfield 61, 3) := by decide +kernel
theorem d_N_tensor_54 : decode prog_1_method_2_code 54 = .ok (.aload_n 0, 1) := by decide +kernel
theorem d_N_tensor_55 : decode prog_1_method_2_code 55 = .ok (.dup, 1) := by decide +kernel
theorem d_N_tensor_56 : decode prog_1_method_2_code 56 = .ok (.getfield 64, 3) := by decide +kernel
theorem d_N_tensor_59 : decode prog_1_method_2_code 59 = .ok (.iload_n 1, 1) := by decide +kernel
theorem d_N_tensor_60 : decode prog_1_method_2_code 60 = .ok (.iadd, 1) := by decide +kernel
theorem d_N_tensor_61 : decode prog_1_method_2_code 61 = .ok (.putfield 64, 3) := by decide +kernel
theorem d_N_tensor_64 : decode prog_1_method_2_code 64 = .ok (.aload_n 0, 1) := by decide +kernel
theorem d_N_tensor_65 : decode prog_1_method_2_code 65 = .ok (.invokevirtual 50, 3) := by decide +kernel
theorem d_N_tensor_68 : decode prog_1_method_2_code 68 = .ok (.aload_n 0, 1) := by decide +kernel
theorem d_N_tensor_69 : decode prog_1_method_2_code 69 = .ok (.getfield 53, 3) := by decide +kernel
theorem d_N_tensor_72 : decode prog_1_method_2_code 72 = .ok (.iconst 1, 1) := by decide +kernel
theorem d_N_tensor_73 : decode prog_1_method_2_code 73 = .ok (.isub, 1) := by decide +kernel
theorem d_N_tensor_74 : decode prog_1_method_2_code 74 = .ok (.ireturn, 1) := by decide +kernel
theorem d_N_leg_0 : decode prog_1_method_3_code 0 = .ok (.aload_n 0, 1) := by decide +kernel
theorem d_N_leg_1 : decode prog_1_method_3_code 1 = .ok (.iload_n 1, 1) := by decide +kernel
theorem d_N_leg_2 : decode prog_1_method_3_code 2 = .ok (.invokevirtual 67, 3) := by decide +kernel
theorem d_N_leg_5 : decode prog_1_method_3_code 5 = .ok (.ifCond .eq 31, 3) := by decide +kernel
theorem d_N_leg_8 : decode prog_1_method_3_code 8 = .ok (.iload_n 2, 1) := by decide +kernel
theorem d_N_leg_9 : decode prog_1_method_3_code 9 = .ok (.ifCond .lt 27, 3) := by decide +kernel
theorem d_N_leg_12 : decode prog_1_method_3_code 12 = .ok (.iload_n 2, 1) := by decide +kernel
theorem d_N_leg_13 : decode prog_1_method_3_code 13 = .ok (.aload_n 0, 1) := by decide +kernel
theorem d_N_leg_14 : decode prog_1_method_3_code 14 = .ok (.getfield 11, 3) := by decide +kernel
theorem d_N_leg_17 : decode prog_1_method_3_code 17 = .ok (.iload_n 1, 1) := by decide +kernel
theorem d_N_leg_18 : decode prog_1_method_3_code 18 = .ok (.aaload, 1) := by decide +kernel
theorem d_N_leg_19 : decode prog_1_method_3_code 19 = .ok (.getfield 71, 3) := by decide +kernel
theorem d_N_leg_22 : decode prog_1_method_3_code 22 = .ok (.if_icmp .ge 14, 3) := by decide +kernel
theorem d_N_leg_25 : decode prog_1_method_3_code 25 = .ok (.iload_n 3, 1) := by decide +kernel
theorem d_N_leg_26 : decode prog_1_method_3_code 26 = .ok (.iconst (-1), 1) := by decide +kernel
theorem d_N_leg_27 : decode prog_1_method_3_code 27 = .ok (.if_icmp .lt 9, 3) := by decide +kernel
theorem d_N_leg_30 : decode prog_1_method_3_code 30 = .ok (.iload_n 3, 1) := by decide +kernel
theorem d_N_leg_31 : decode prog_1_method_3_code 31 = .ok (.bipush 20, 2) := by decide +kernel
theorem d_N_leg_33 : decode prog_1_method_3_code 33 = .ok (.if_icmp .lt 5, 3) := by decide +kernel
theorem d_N_leg_36 : decode prog_1_method_3_code 36 = .ok (.iconst 0, 1) := by decide +kernel
theorem d_N_leg_37 : decode prog_1_method_3_code 37 = .ok (.ireturn, 1) := by decide +kernel
theorem d_N_leg_38 : decode prog_1_method_3_code 38 = .ok (.aload_n 0, 1) := by decide +kernel
theorem d_N_leg_39 : decode prog_1_method_3_code 39 = .ok (.getfield 11, 3) := by decide +kernel
theorem d_N_leg_42 : decode prog_1_method_3_code 42 = .ok (.iload_n 1, 1) := by decide +kernel
theorem d_N_leg_43 : decode prog_1_method_3_code 43 = .ok (.aaload, 1) := by decide +kernel
theorem d_N_leg_44 : decode prog_1_method_3_code 44 = .ok (.getfield 74, 3) := by decide +kernel
theorem d_N_leg_47 : decode prog_1_method_3_code 47 = .ok (.iload_n 2, 1) := by decide +kernel
theorem d_N_leg_48 : decode prog_1_method_3_code 48 = .ok (.iaload, 1) := by decide +kernel
theorem d_N_leg_49 : decode prog_1_method_3_code 49 = .ok (.istore 4, 2) := by decide +kernel
theorem d_N_leg_51 : decode prog_1_method_3_code 51 = .ok (.iload_n 3, 1) := by decide +kernel
theorem d_N_leg_52 : decode prog_1_method_3_code 52 = .ok (.iload 4, 2) := by decide +kernel
theorem d_N_leg_54 : decode prog_1_method_3_code 54 = .ok (.if_icmp .ne 5, 3) := by decide +kernel
theorem d_N_leg_57 : decode prog_1_method_3_code 57 = .ok (.iconst 1, 1) := by decide +kernel
theorem d_N_leg_58 : decode prog_1_method_3_code 58 = .ok (.ireturn, 1) := by decide +kernel
theorem d_N_leg_59 : decode prog_1_method_3_code 59 = .ok (.iload_n 3, 1) := by decide +kernel
theorem d_N_leg_60 : decode prog_1_method_3_code 60 = .ok (.iconst (-1), 1) := by decide +kernel
theorem d_N_leg_61 : decode prog_1_method_3_code 61 = .ok (.if_icmp .eq 15, 3) := by decide +kernel
theorem d_N_leg_64 : decode prog_1_method_3_code 64 = .ok (.aload_n 0, 1) := by decide +kernel
theorem d_N_leg_65 : decode prog_1_method_3_code 65 = .ok (.getfield 16, 3) := by decide +kernel
theorem d_N_leg_68 : decode prog_1_method_3_code 68 = .ok (.iload_n 3, 1) := by decide +kernel
theorem d_N_leg_69 : decode prog_1_method_3_code 69 = .ok (.iaload, 1) := by decide +kernel
theorem d_N_leg_70 : decode prog_1_method_3_code 70 = .ok (.iconst 2, 1) := by decide +kernel
theorem d_N_leg_71 : decode prog_1_method_3_code 71 = .ok (.if_icmp .lt 5, 3) := by decide +kernel
theorem d_N_leg_74 : decode prog_1_method_3_code 74 = .ok (.iconst 0, 1) := by decide +kernel
theorem d_N_leg_75 : decode prog_1_method_3_code 75 = .ok (.ireturn, 1) := by decide +kernel
theorem d_N_leg_76 : decode prog_1_method_3_code 76 = .ok (.aload_n 0, 1) := by decide +kernel
theorem d_N_leg_77 : decode prog_1_method_3_code 77 = .ok (.iload 4, 2) := by decide +kernel
theorem d_N_leg_79 : decode prog_1_method_3_code 79 = .ok (.iconst (-1), 1) := by decide +kernel
theorem d_N_leg_80 : decode prog_1_method_3_code 80 = .ok (.invokevirtual 77, 3) := by decide +kernel
theorem d_N_leg_83 : decode prog_1_method_3_code 83 = .ok (.aload_n 0, 1) := by decide +kernel
theorem d_N_leg_84 : decode prog_1_method_3_code 84 = .ok (.iload_n 3, 1) := by decide +kernel
theorem d_N_leg_85 : decode prog_1_method_3_code 85 = .ok (.iconst 1, 1) := by decide +kernel
theorem d_N_leg_86 : decode prog_1_method_3_code 86 = .ok (.invokevirtual 77, 3) := by decide +kernel
theorem d_N_leg_89 : decode prog_1_method_3_code 89 = .ok (.aload_n 0, 1) := by decide +kernel
theorem d_N_leg_90 : decode prog_1_method_3_code 90 = .ok (.getfield 11, 3) := by decide +kernel
theorem d_N_leg_93 : decode prog_1_method_3_code 93 = .ok (.iload_n 1, 1) := by decide +kernel
theorem d_N_leg_94 : decode prog_1_method_3_code 94 = .ok (.aaload, 1) := by decide +kernel
theorem d_N_leg_95 : decode prog_1_method_3_code 95 = .ok (.iload_n 2, 1) := by decide +kernel
theorem d_N_leg_96 : decode prog_1_method_3_code 96 = .ok (.iload_n 3, 1) := by decide +kernel
theorem d_N_leg_97 : decode prog_1_method_3_code 97 = .ok (.invokevirtual 81, 3) := by decide +kernel
theorem d_N_leg_100 : decode prog_1_method_3_code 100 = .ok (.aload_n 0, 1) := by decide +kernel
theorem d_N_leg_101 : decode prog_1_method_3_code 101 = .ok (.invokevirtual 50, 3) := by decide +kernel
theorem d_N_leg_104 : decode prog_1_method_3_code 104 = .ok (.iconst 1, 1) := by decide +kernel
theorem d_N_leg_105 : decode prog_1_method_3_code 105 = .ok (.ireturn, 1) := by decide +kernel
theorem d_N_isTensor_0 : decode prog_1_method_17_code 0 = .ok (.iload_n 1, 1) := by decide +kernel
theorem d_N_isTensor_1 : decode prog_1_method_17_code 1 = .ok (.ifCond .lt 15, 3) := by decide +kernel
theorem d_N_isTensor_4 : decode prog_1_method_17_code 4 = .ok (.iload_n 1, 1) := by decide +kernel
theorem d_N_isTensor_5 : decode prog_1_method_17_code 5 = .ok (.aload_n 0, 1) := by decide +kernel
theorem d_N_isTensor_6 : decode prog_1_method_17_code 6 = .ok (.getfield 53, 3) := by decide +kernel
theorem d_N_isTensor_9 : decode prog_1_method_17_code 9 = .ok (.if_icmp .ge 7, 3) := by decide +kernel
theorem d_N_isTensor_12 : decode prog_1_method_17_code 12 = .ok (.iconst 1, 1) := by decide +kernel
theorem d_N_isTensor_13 : decode prog_1_method_17_code 13 = .ok (.goto 4, 3) := by decide +kernel
theorem d_N_isTensor_16 : decode prog_1_method_17_code 16 = .ok (.iconst 0, 1) := by decide +kernel
theorem d_N_isTensor_17 : decode prog_1_method_17_code 17 = .ok (.ireturn, 1) := by decide +kernel
theorem d_N_countUse_0 : decode prog_1_method_20_code 0 = .ok (.iload_n 1, 1) := by decide +kernel
theorem d_N_countUse_1 : decode prog_1_method_20_code 1 = .ok (.iconst (-1), 1) := by decide +kernel
theorem d_N_countUse_2 : decode prog_1_method_20_code 2 = .ok (.if_icmp .ne 16, 3) := by decide +kernel
theorem d_N_countUse_5 : decode prog_1_method_20_code 5 = .ok (.aload_n 0, 1) := by decide +kernel
theorem d_N_countUse_6 : decode prog_1_method_20_code 6 = .ok (.dup, 1) := by decide +kernel
theorem d_N_countUse_7 : decode prog_1_method_20_code 7 = .ok (.getfield 64, 3) := by decide +kernel
theorem d_N_countUse_10 : decode prog_1_method_20_code 10 = .ok (.iload_n 2, 1) := by decide +kernel
theorem d_N_countUse_11 : decode prog_1_method_20_code 11 = .ok (.iadd, 1) := by decide +kernel
theorem d_N_countUse_12 : decode prog_1_method_20_code 12 = .ok (.putfield 64, 3) := by decide +kernel
theorem d_N_countUse_15 : decode prog_1_method_20_code 15 = .ok (.goto 13, 3) := by decide +kernel
theorem d_N_countUse_18 : decode prog_1_method_20_code 18 = .ok (.aload_n 0, 1) := by decide +kernel
theorem d_N_countUse_19 : decode prog_1_method_20_code 19 = .ok (.getfield 16, 3) := by decide +kernel
theorem d_N_countUse_22 : decode prog_1_method_20_code 22 = .ok (.iload_n 1, 1) := by decide +kernel
theorem d_N_countUse_23 : decode prog_1_method_20_code 23 = .ok (.dup2, 1) := by decide +kernel
theorem d_N_countUse_24 : decode prog_1_method_20_code 24 = .ok (.iaload, 1) := by decide +kernel
theorem d_N_countUse_25 : decode prog_1_method_20_code 25 = .ok (.iload_n 2, 1) := by decide +kernel
theorem d_N_countUse_26 : decode prog_1_method_20_code 26 = .ok (.iadd, 1) := by decide +kernel
theorem d_N_countUse_27 : decode prog_1_method_20_code 27 = .ok (.iastore, 1) := by decide +kernel
theorem d_N_countUse_28 : decode prog_1_method_20_code 28 = .ok (.return_, 1) := by decide +kernel
theorem d_N_put_0 : decode prog_1_method_4_code 0 = .ok (.aload_n 0, 1) := by decide +kernel
theorem d_N_put_1 : decode prog_1_method_4_code 1 = .ok (.iload_n 1, 1) := by decide +kernel
theorem d_N_put_2 : decode prog_1_method_4_code 2 = .ok (.iload_n 2, 1) := by decide +kernel
theorem d_N_put_3 : decode prog_1_method_4_code 3 = .ok (.invokevirtual 84, 3) := by decide +kernel
theorem d_N_put_6 : decode prog_1_method_4_code 6 = .ok (.ifCond .eq 18, 3) := by decide +kernel
theorem d_N_put_9 : decode prog_1_method_4_code 9 = .ok (.iload_n 3, 1) := by decide +kernel
theorem d_N_put_10 : decode prog_1_method_4_code 10 = .ok (.invokestatic 88, 3) := by decide +kernel
theorem d_N_put_13 : decode prog_1_method_4_code 13 = .ok (.ifCond .eq 11, 3) := by decide +kernel
theorem d_N_put_16 : decode prog_1_method_4_code 16 = .ok (.iload 4, 2) := by decide +kernel
theorem d_N_put_18 : decode prog_1_method_4_code 18 = .ok (.invokestatic 88, 3) := by decide +kernel
theorem d_N_put_21 : decode prog_1_method_4_code 21 = .ok (.ifCond .ne 5, 3) := by decide +kernel
theorem d_N_put_24 : decode prog_1_method_4_code 24 = .ok (.iconst 0, 1) := by decide +kernel
theorem d_N_put_25 : decode prog_1_method_4_code 25 = .ok (.ireturn, 1) := by decide +kernel
theorem d_N_put_26 : decode prog_1_method_4_code 26 = .ok (.aload_n 0, 1) := by decide +kernel
theorem d_N_put_27 : decode prog_1_method_4_code 27 = .ok (.getfield 11, 3) := by decide +kernel
theorem d_N_put_30 : decode prog_1_method_4_code 30 = .ok (.iload_n 1, 1) := by decide +kernel
theorem d_N_put_31 : decode prog_1_method_4_code 31 = .ok (.aaload, 1) := by decide +kernel
theorem d_N_put_32 : decode prog_1_method_4_code 32 = .ok (.getfield 91, 3) := by decide +kernel
theorem d_N_put_35 : decode prog_1_method_4_code 35 = .ok (.iload_n 2, 1) := by decide +kernel
theorem d_N_put_36 : decode prog_1_method_4_code 36 = .ok (.iload_n 3, 1) := by decide +kernel
theorem d_N_put_37 : decode prog_1_method_4_code 37 = .ok (.iastore, 1) := by decide +kernel
theorem d_N_put_38 : decode prog_1_method_4_code 38 = .ok (.aload_n 0, 1) := by decide +kernel
theorem d_N_put_39 : decode prog_1_method_4_code 39 = .ok (.getfield 11, 3) := by decide +kernel
theorem d_N_put_42 : decode prog_1_method_4_code 42 = .ok (.iload_n 1, 1) := by decide +kernel
theorem d_N_put_43 : decode prog_1_method_4_code 43 = .ok (.aaload, 1) := by decide +kernel
theorem d_N_put_44 : decode prog_1_method_4_code 44 = .ok (.getfield 94, 3) := by decide +kernel
theorem d_N_put_47 : decode prog_1_method_4_code 47 = .ok (.iload_n 2, 1) := by decide +kernel
theorem d_N_put_48 : decode prog_1_method_4_code 48 = .ok (.iload 4, 2) := by decide +kernel
theorem d_N_put_50 : decode prog_1_method_4_code 50 = .ok (.iastore, 1) := by decide +kernel
theorem d_N_put_51 : decode prog_1_method_4_code 51 = .ok (.iconst 1, 1) := by decide +kernel
theorem d_N_put_52 : decode prog_1_method_4_code 52 = .ok (.ireturn, 1) := by decide +kernel
theorem d_N_isEntry_0 : decode prog_1_method_18_code 0 = .ok (.aload_n 0, 1) := by decide +kernel
theorem d_N_isEntry_1 : decode prog_1_method_18_code 1 = .ok (.iload_n 1, 1) := by decide +kernel
theorem d_N_isEntry_2 : decode prog_1_method_18_code 2 = .ok (.invokevirtual 67, 3) := by decide +kernel
theorem d_N_isEntry_5 : decode prog_1_method_18_code 5 = .ok (.ifCond .eq 26, 3) := by decide +kernel
theorem d_N_isEntry_8 : decode prog_1_method_18_code 8 = .ok (.iload_n 2, 1) := by decide +kernel
theorem d_N_isEntry_9 : decode prog_1_method_18_code 9 = .ok (.ifCond .lt 22, 3) := by decide +kernel
theorem d_N_isEntry_12 : decode prog_1_method_18_code 12 = .ok (.iload_n 2, 1) := by decide +kernel
theorem d_N_isEntry_13 : decode prog_1_method_18_code 13 = .ok (.iconst 1, 1) := by decide +kernel
theorem d_N_isEntry_14 : decode prog_1_method_18_code 14 = .ok (.aload_n 0, 1) := by decide +kernel
theorem d_N_isEntry_15 : decode prog_1_method_18_code 15 = .ok (.getfield 11, 3) := by decide +kernel
theorem d_N_isEntry_18 : decode prog_1_method_18_code 18 = .ok (.iload_n 1, 1) := by decide +kernel
theorem d_N_isEntry_19 : decode prog_1_method_18_code 19 = .ok (.aaload, 1) := by decide +kernel
theorem d_N_isEntry_20 : decode prog_1_method_18_code 20 = .ok (.getfield 71, 3) := by decide +kernel
theorem d_N_isEntry_23 : decode prog_1_method_18_code 23 = .ok (.ishl, 1) := by decide +kernel
theorem d_N_isEntry_24 : decode prog_1_method_18_code 24 = .ok (.if_icmp .ge 7, 3) := by decide +kernel
theorem d_N_isEntry_27 : decode prog_1_method_18_code 27 = .ok (.iconst 1, 1) := by decide +kernel
theorem d_N_isEntry_28 : decode prog_1_method_18_code 28 = .ok (.goto 4, 3) := by decide +kernel
theorem d_N_isEntry_31 : decode prog_1_method_18_code 31 = .ok (.iconst 0, 1) := by decide +kernel
theorem d_N_isEntry_32 : decode prog_1_method_18_code 32 = .ok (.ireturn, 1) := by decide +kernel
theorem d_N_isPart_0 : decode prog_1_method_19_code 0 = .ok (.iload_n 0, 1) := by decide +kernel
theorem d_N_isPart_1 : decode prog_1_method_19_code 1 = .ok (.bipush (-9), 2) := by decide +kernel
theorem d_N_isPart_3 : decode prog_1_method_19_code 3 = .ok (.if_icmp .lt 13, 3) := by decide +kernel
theorem d_N_isPart_6 : decode prog_1_method_19_code 6 = .ok (.iload_n 0, 1) := by decide +kernel
theorem d_N_isPart_7 : decode prog_1_method_19_code 7 = .ok (.bipush 9, 2) := by decide +kernel
theorem d_N_isPart_9 : decode prog_1_method_19_code 9 = .ok (.if_icmp .gt 7, 3) := by decide +kernel
theorem d_N_isPart_12 : decode prog_1_method_19_code 12 = .ok (.iconst 1, 1) := by decide +kernel
theorem d_N_isPart_13 : decode prog_1_method_19_code 13 = .ok (.goto 4, 3) := by decide +kernel
theorem d_N_isPart_16 : decode prog_1_method_19_code 16 = .ok (.iconst 0, 1) := by decide +kernel
theorem d_N_isPart_17 : decode prog_1_method_19_code 17 = .ok (.ireturn, 1) := by decide +kernel
theorem d_N_clear_0 : decode prog_1_method_5_code 0 = .ok (.aload_n 0, 1) := by decide +kernel
theorem d_N_clear_1 : decode prog_1_method_5_code 1 = .ok (.iconst 0, 1) := by decide +kernel
theorem d_N_clear_2 : decode prog_1_method_5_code 2 = .ok (.putfield 53, 3) := by decide +kernel
theorem d_N_clear_5 : decode prog_1_method_5_code 5 = .ok (.aload_n 0, 1) := by decide +kernel
theorem d_N_clear_6 : decode prog_1_method_5_code 6 = .ok (.iconst 0, 1) := by decide +kernel
theorem d_N_clear_7 : decode prog_1_method_5_code 7 = .ok (.putfield 61, 3) := by decide +kernel
theorem d_N_clear_10 : decode prog_1_method_5_code 10 = .ok (.aload_n 0, 1) := by decide +kernel
theorem d_N_clear_11 : decode prog_1_method_5_code 11 = .ok (.iconst 0, 1) := by decide +kernel
theorem d_N_clear_12 : decode prog_1_method_5_code 12 = .ok (.putfield 64, 3) := by decide +kernel
theorem d_N_clear_15 : decode prog_1_method_5_code 15 = .ok (.aload_n 0, 1) := by decide +kernel
theorem d_N_clear_16 : decode prog_1_method_5_code 16 = .ok (.getfield 16, 3) := by decide +kernel
theorem d_N_clear_19 : decode prog_1_method_5_code 19 = .ok (.iconst 0, 1) := by decide +kernel
theorem d_N_clear_20 : decode prog_1_method_5_code 20 = .ok (.invokestatic 97, 3) := by decide +kernel
theorem d_N_clear_23 : decode prog_1_method_5_code 23 = .ok (.aload_n 0, 1) := by decide +kernel
theorem d_N_clear_24 : decode prog_1_method_5_code 24 = .ok (.invokevirtual 50, 3) := by decide +kernel
theorem d_N_clear_27 : decode prog_1_method_5_code 27 = .ok (.return_, 1) := by decide +kernel
theorem d_N_open_0 : decode prog_1_method_6_code 0 = .ok (.aload_n 0, 1) := by decide +kernel
theorem d_N_open_1 : decode prog_1_method_6_code 1 = .ok (.invokevirtual 103, 3) := by decide +kernel
theorem d_N_open_4 : decode prog_1_method_6_code 4 = .ok (.ifCond .eq 11, 3) := by decide +kernel
theorem d_N_open_7 : decode prog_1_method_6_code 7 = .ok (.aload_n 0, 1) := by decide +kernel
theorem d_N_open_8 : decode prog_1_method_6_code 8 = .ok (.iconst 1, 1) := by decide +kernel
theorem d_N_open_9 : decode prog_1_method_6_code 9 = .ok (.invokevirtual 107, 3) := by decide +kernel
theorem d_N_open_12 : decode prog_1_method_6_code 12 = .ok (.goto 4, 3) := by decide +kernel
theorem d_N_open_15 : decode prog_1_method_6_code 15 = .ok (.iconst (-1), 1) := by decide +kernel
theorem d_N_open_16 : decode prog_1_method_6_code 16 = .ok (.ireturn, 1) := by decide +kernel
theorem d_N_isReady_0 : decode prog_1_method_16_code 0 = .ok (.aload_n 0, 1) := by decide +kernel
theorem d_N_isReady_1 : decode prog_1_method_16_code 1 = .ok (.getfield 53, 3) := by decide +kernel
theorem d_N_isReady_4 : decode prog_1_method_16_code 4 = .ok (.ifCond .le 14, 3) := by decide +kernel
theorem d_N_isReady_7 : decode prog_1_method_16_code 7 = .ok (.aload_n 0, 1) := by decide +kernel
theorem d_N_isReady_8 : decode prog_1_method_16_code 8 = .ok (.getfield 64, 3) := by decide +kernel
theorem d_N_isReady_11 : decode prog_1_method_16_code 11 = .ok (.ifCond .ne 7, 3) := by decide +kernel
theorem d_N_isReady_14 : decode prog_1_method_16_code 14 = .ok (.iconst 1, 1) := by decide +kernel
theorem d_N_isReady_15 : decode prog_1_method_16_code 15 = .ok (.goto 4, 3) := by decide +kernel
theorem d_N_isReady_18 : decode prog_1_method_16_code 18 = .ok (.iconst 0, 1) := by decide +kernel
theorem d_N_isReady_19 : decode prog_1_method_16_code 19 = .ok (.ireturn, 1) := by decide +kernel
theorem d_N_namesUsed_0 : decode prog_1_method_21_code 0 = .ok (.iconst 0, 1) := by decide +kernel
theorem d_N_namesUsed_1 : decode prog_1_method_21_code 1 = .ok (.istore_n 2, 1) := by decide +kernel
theorem d_N_namesUsed_2 : decode prog_1_method_21_code 2 = .ok (.iconst 0, 1) := by decide +kernel
theorem d_N_namesUsed_3 : decode prog_1_method_21_code 3 = .ok (.istore_n 3, 1) := by decide +kernel
theorem d_N_namesUsed_4 : decode prog_1_method_21_code 4 = .ok (.iload_n 3, 1) := by decide +kernel
theorem d_N_namesUsed_5 : decode prog_1_method_21_code 5 = .ok (.bipush 20, 2) := by decide +kernel
theorem d_N_namesUsed_7 : decode prog_1_method_21_code 7 = .ok (.if_icmp .ge 25, 3) := by decide +kernel
theorem d_N_namesUsed_10 : decode prog_1_method_21_code 10 = .ok (.aload_n 0, 1) := by decide +kernel
theorem d_N_namesUsed_11 : decode prog_1_method_21_code 11 = .ok (.getfield 16, 3) := by decide +kernel
theorem d_N_namesUsed_14 : decode prog_1_method_21_code 14 = .ok (.iload_n 3, 1) := by decide +kernel
theorem d_N_namesUsed_15 : decode prog_1_method_21_code 15 = .ok (.iaload, 1) := by decide +kernel
theorem d_N_namesUsed_16 : decode prog_1_method_21_code 16 = .ok (.iload_n 1, 1) := by decide +kernel
theorem d_N_namesUsed_17 : decode prog_1_method_21_code 17 = .ok (.if_icmp .ne 9, 3) := by decide +kernel
theorem d_N_namesUsed_20 : decode prog_1_method_21_code 20 = .ok (.iload_n 2, 1) := by decide +kernel
theorem d_N_namesUsed_21 : decode prog_1_method_21_code 21 = .ok (.iconst 1, 1) := by decide +kernel
theorem d_N_namesUsed_22 : decode prog_1_method_21_code 22 = .ok (.iload_n 3, 1) := by decide +kernel
theorem d_N_namesUsed_23 : decode prog_1_method_21_code 23 = .ok (.ishl, 1) := by decide +kernel
theorem d_N_namesUsed_24 : decode prog_1_method_21_code 24 = .ok (.ior, 1) := by decide +kernel
theorem d_N_namesUsed_25 : decode prog_1_method_21_code 25 = .ok (.istore_n 2, 1) := by decide +kernel
theorem d_N_namesUsed_26 : decode prog_1_method_21_code 26 = .ok (.iinc 3 1, 3) := by decide +kernel
theorem d_N_namesUsed_29 : decode prog_1_method_21_code 29 = .ok (.goto (-25), 3) := by decide +kernel
theorem d_N_namesUsed_32 : decode prog_1_method_21_code 32 = .ok (.iload_n 2, 1) := by decide +kernel
theorem d_N_namesUsed_33 : decode prog_1_method_21_code 33 = .ok (.ireturn, 1) := by decide +kernel
theorem d_N_cost_0 : decode prog_1_method_9_code 0 = .ok (.aload_n 0, 1) := by decide +kernel
theorem d_N_cost_1 : decode prog_1_method_9_code 1 = .ok (.invokevirtual 103, 3) := by decide +kernel
theorem d_N_cost_4 : decode prog_1_method_9_code 4 = .ok (.ifCond .eq 13, 3) := by decide +kernel
theorem d_N_cost_7 : decode prog_1_method_9_code 7 = .ok (.aload_n 0, 1) := by decide +kernel
theorem d_N_cost_8 : decode prog_1_method_9_code 8 = .ok (.invokevirtual 128, 3) := by decide +kernel
theorem d_N_cost_11 : decode prog_1_method_9_code 11 = .ok (.getfield 132, 3) := by decide +kernel
theorem d_N_cost_14 : decode prog_1_method_9_code 14 = .ok (.goto 4, 3) := by decide +kernel
theorem d_N_cost_17 : decode prog_1_method_9_code 17 = .ok (.iconst (-1), 1) := by decide +kernel
theorem d_N_cost_18 : decode prog_1_method_9_code 18 = .ok (.ireturn, 1) := by decide +kernel
theorem d_N_orderOfAll_0 : decode prog_1_method_26_code 0 = .ok (.aload_n 0, 1) := by decide +kernel
theorem d_N_orderOfAll_1 : decode prog_1_method_26_code 1 = .ok (.getfield 180, 3) := by decide +kernel
theorem d_N_orderOfAll_4 : decode prog_1_method_26_code 4 = .ok (.ifCond .ne 17, 3) := by decide +kernel
theorem d_N_orderOfAll_7 : decode prog_1_method_26_code 7 = .ok (.aload_n 0, 1) := by decide +kernel
theorem d_N_orderOfAll_8 : decode prog_1_method_26_code 8 = .ok (.aload_n 0, 1) := by decide +kernel
theorem d_N_orderOfAll_9 : decode prog_1_method_26_code 9 = .ok (.getfield 29, 3) := by decide +kernel
theorem d_N_orderOfAll_12 : decode prog_1_method_26_code 12 = .ok (.iconst 0, 1) := by decide +kernel
theorem d_N_orderOfAll_13 : decode prog_1_method_26_code 13 = .ok (.invokevirtual 191, 3) := by decide +kernel
theorem d_N_orderOfAll_16 : decode prog_1_method_26_code 16 = .ok (.aload_n 0, 1) := by decide +kernel
theorem d_N_orderOfAll_17 : decode prog_1_method_26_code 17 = .ok (.iconst 1, 1) := by decide +kernel
theorem d_N_orderOfAll_18 : decode prog_1_method_26_code 18 = .ok (.putfield 180, 3) := by decide +kernel
theorem d_N_orderOfAll_21 : decode prog_1_method_26_code 21 = .ok (.aload_n 0, 1) := by decide +kernel
theorem d_N_orderOfAll_22 : decode prog_1_method_26_code 22 = .ok (.getfield 29, 3) := by decide +kernel
theorem d_N_orderOfAll_25 : decode prog_1_method_26_code 25 = .ok (.areturn, 1) := by decide +kernel
theorem d_N_findOrder_0 : decode prog_1_method_25_code 0 = .ok (.aload_n 0, 1) := by decide +kernel
theorem d_N_findOrder_1 : decode prog_1_method_25_code 1 = .ok (.iload_n 2, 1) := by decide +kernel
theorem d_N_findOrder_2 : decode prog_1_method_25_code 2 = .ok (.invokevirtual 144, 3) := by decide +kernel
theorem d_N_findOrder_5 : decode prog_1_method_25_code 5 = .ok (.aload_n 0, 1) := by decide +kernel
theorem d_N_findOrder_6 : decode prog_1_method_25_code 6 = .ok (.getfield 39, 3) := by decide +kernel
theorem d_N_findOrder_9 : decode prog_1_method_25_code 9 = .ok (.aload_n 0, 1) := by decide +kernel
theorem d_N_findOrder_10 : decode prog_1_method_25_code 10 = .ok (.getfield 20, 3) := by decide +kernel
theorem d_N_findOrder_13 : decode prog_1_method_25_code 13 = .ok (.aload_n 0, 1) := by decide +kernel
theorem d_N_findOrder_14 : decode prog_1_method_25_code 14 = .ok (.getfield 53, 3) := by decide +kernel
theorem d_N_findOrder_17 : decode prog_1_method_25_code 17 = .ok (.invokevirtual 147, 3) := by decide +kernel
theorem d_N_findOrder_20 : decode prog_1_method_25_code 20 = .ok (.aload_n 1, 1) := by decide +kernel
theorem d_N_findOrder_21 : decode prog_1_method_25_code 21 = .ok (.aload_n 0, 1) := by decide +kernel
theorem d_N_findOrder_22 : decode prog_1_method_25_code 22 = .ok (.getfield 20, 3) := by decide +kernel
theorem d_N_findOrder_25 : decode prog_1_method_25_code 25 = .ok (.aload_n 0, 1) := by decide +kernel
theorem d_N_findOrder_26 : decode prog_1_method_25_code 26 = .ok (.getfield 53, 3) := by decide +kernel
theorem d_N_findOrder_29 : decode prog_1_method_25_code 29 = .ok (.aload_n 0, 1) := by decide +kernel
theorem d_N_findOrder_30 : decode prog_1_method_25_code 30 = .ok (.getfield 39, 3) := by decide +kernel
theorem d_N_findOrder_33 : decode prog_1_method_25_code 33 = .ok (.getfield 150, 3) := by decide +kernel
theorem d_N_findOrder_36 : decode prog_1_method_25_code 36 = .ok (.invokevirtual 187, 3) := by decide +kernel
theorem d_N_findOrder_39 : decode prog_1_method_25_code 39 = .ok (.return_, 1) := by decide +kernel
theorem d_N_takeLegs_0 : decode prog_1_method_24_code 0 = .ok (.iconst 0, 1) := by decide +kernel
theorem d_N_takeLegs_1 : decode prog_1_method_24_code 1 = .ok (.istore_n 2, 1) := by decide +kernel
theorem d_N_takeLegs_2 : decode prog_1_method_24_code 2 = .ok (.iload_n 2, 1) := by decide +kernel
theorem d_N_takeLegs_3 : decode prog_1_method_24_code 3 = .ok (.aload_n 0, 1) := by decide +kernel
theorem d_N_takeLegs_4 : decode prog_1_method_24_code 4 = .ok (.getfield 53, 3) := by decide +kernel
theorem d_N_takeLegs_7 : decode prog_1_method_24_code 7 = .ok (.if_icmp .ge 28, 3) := by decide +kernel
theorem d_N_takeLegs_10 : decode prog_1_method_24_code 10 = .ok (.aload_n 0, 1) := by decide +kernel
theorem d_N_takeLegs_11 : decode prog_1_method_24_code 11 = .ok (.getfield 20, 3) := by decide +kernel
theorem d_N_takeLegs_14 : decode prog_1_method_24_code 14 = .ok (.iload_n 2, 1) := by decide +kernel
theorem d_N_takeLegs_15 : decode prog_1_method_24_code 15 = .ok (.aload_n 0, 1) := by decide +kernel
theorem d_N_takeLegs_16 : decode prog_1_method_24_code 16 = .ok (.getfield 11, 3) := by decide +kernel
theorem d_N_takeLegs_19 : decode prog_1_method_24_code 19 = .ok (.iload_n 2, 1) := by decide +kernel
theorem d_N_takeLegs_20 : decode prog_1_method_24_code 20 = .ok (.aaload, 1) := by decide +kernel
theorem d_N_takeLegs_21 : decode prog_1_method_24_code 21 = .ok (.getfield 177, 3) := by decide +kernel
theorem d_N_takeLegs_24 : decode prog_1_method_24_code 24 = .ok (.iload_n 1, 1) := by decide +kernel
theorem d_N_takeLegs_25 : decode prog_1_method_24_code 25 = .ok (.iconst (-1), 1) := by decide +kernel
theorem d_N_takeLegs_26 : decode prog_1_method_24_code 26 = .ok (.ixor, 1) := by decide +kernel
theorem d_N_takeLegs_27 : decode prog_1_method_24_code 27 = .ok (.iand, 1) := by decide +kernel
theorem d_N_takeLegs_28 : decode prog_1_method_24_code 28 = .ok (.iastore, 1) := by decide +kernel
theorem d_N_takeLegs_29 : decode prog_1_method_24_code 29 = .ok (.iinc 2 1, 3) := by decide +kernel
theorem d_N_takeLegs_32 : decode prog_1_method_24_code 32 = .ok (.goto (-30), 3) := by decide +kernel
theorem d_N_takeLegs_35 : decode prog_1_method_24_code 35 = .ok (.return_, 1) := by decide +kernel
theorem d_N_isIn_0 : decode prog_1_method_35_code 0 = .ok (.iload_n 1, 1) := by decide +kernel
theorem d_N_isIn_1 : decode prog_1_method_35_code 1 = .ok (.iload_n 0, 1) := by decide +kernel
theorem d_N_isIn_2 : decode prog_1_method_35_code 2 = .ok (.ishr, 1) := by decide +kernel
theorem d_N_isIn_3 : decode prog_1_method_35_code 3 = .ok (.iconst 1, 1) := by decide +kernel
theorem d_N_isIn_4 : decode prog_1_method_35_code 4 = .ok (.iand, 1) := by decide +kernel
theorem d_N_isIn_5 : decode prog_1_method_35_code 5 = .ok (.iconst 1, 1) := by decide +kernel
theorem d_N_isIn_6 : decode prog_1_method_35_code 6 = .ok (.if_icmp .ne 7, 3) := by decide +kernel
theorem d_N_isIn_9 : decode prog_1_method_35_code 9 = .ok (.iconst 1, 1) := by decide +kernel
theorem d_N_isIn_10 : decode prog_1_method_35_code 10 = .ok (.goto 4, 3) := by decide +kernel
theorem d_N_isIn_13 : decode prog_1_method_35_code 13 = .ok (.iconst 0, 1) := by decide +kernel
theorem d_N_isIn_14 : decode prog_1_method_35_code 14 = .ok (.ireturn, 1) := by decide +kernel
theorem d_N_peak_0 : decode prog_1_method_10_code 0 = .ok (.aload_n 0, 1) := by decide +kernel
theorem d_N_peak_1 : decode prog_1_method_10_code 1 = .ok (.invokevirtual 103, 3) := by decide +kernel
theorem d_N_peak_4 : decode prog_1_method_10_code 4 = .ok (.ifCond .eq 13, 3) := by decide +kernel
theorem d_N_peak_7 : decode prog_1_method_10_code 7 = .ok (.aload_n 0, 1) := by decide +kernel
theorem d_N_peak_8 : decode prog_1_method_10_code 8 = .ok (.invokevirtual 128, 3) := by decide +kernel
theorem d_N_peak_11 : decode prog_1_method_10_code 11 = .ok (.getfield 135, 3) := by decide +kernel
theorem d_N_peak_14 : decode prog_1_method_10_code 14 = .ok (.goto 4, 3) := by decide +kernel
theorem d_N_peak_17 : decode prog_1_method_10_code 17 = .ok (.iconst (-1), 1) := by decide +kernel
theorem d_N_peak_18 : decode prog_1_method_10_code 18 = .ok (.ireturn, 1) := by decide +kernel
theorem d_N_step_0 : decode prog_1_method_11_code 0 = .ok (.aload_n 0, 1) := by decide +kernel
theorem d_N_step_1 : decode prog_1_method_11_code 1 = .ok (.invokevirtual 103, 3) := by decide +kernel
theorem d_N_step_4 : decode prog_1_method_11_code 4 = .ok (.ifCond .eq 26, 3) := by decide +kernel
theorem d_N_step_7 : decode prog_1_method_11_code 7 = .ok (.iload_n 1, 1) := by decide +kernel
theorem d_N_step_8 : decode prog_1_method_11_code 8 = .ok (.ifCond .lt 22, 3) := by decide +kernel
theorem d_N_step_11 : decode prog_1_method_11_code 11 = .ok (.iload_n 1, 1) := by decide +kernel
theorem d_N_step_12 : decode prog_1_method_11_code 12 = .ok (.aload_n 0, 1) := by decide +kernel
theorem d_N_step_13 : decode prog_1_method_11_code 13 = .ok (.getfield 53, 3) := by decide +kernel
theorem d_N_step_16 : decode prog_1_method_11_code 16 = .ok (.iconst 1, 1) := by decide +kernel
theorem d_N_step_17 : decode prog_1_method_11_code 17 = .ok (.isub, 1) := by decide +kernel
theorem d_N_step_18 : decode prog_1_method_11_code 18 = .ok (.if_icmp .ge 12, 3) := by decide +kernel
theorem d_N_step_21 : decode prog_1_method_11_code 21 = .ok (.iload_n 2, 1) := by decide +kernel
theorem d_N_step_22 : decode prog_1_method_11_code 22 = .ok (.ifCond .lt 8, 3) := by decide +kernel
theorem d_N_step_25 : decode prog_1_method_11_code 25 = .ok (.iload_n 2, 1) := by decide +kernel
theorem d_N_step_26 : decode prog_1_method_11_code 26 = .ok (.iconst 1, 1) := by decide +kernel
theorem d_N_step_27 : decode prog_1_method_11_code 27 = .ok (.if_icmp .le 5, 3) := by decide +kernel
theorem d_N_step_30 : decode prog_1_method_11_code 30 = .ok (.iconst (-1), 1) := by decide +kernel
theorem d_N_step_31 : decode prog_1_method_11_code 31 = .ok (.ireturn, 1) := by decide +kernel
theorem d_N_step_32 : decode prog_1_method_11_code 32 = .ok (.aload_n 0, 1) := by decide +kernel
theorem d_N_step_33 : decode prog_1_method_11_code 33 = .ok (.invokevirtual 128, 3) := by decide +kernel
theorem d_N_step_36 : decode prog_1_method_11_code 36 = .ok (.astore_n 3, 1) := by decide +kernel
theorem d_N_step_37 : decode prog_1_method_11_code 37 = .ok (.aload_n 3, 1) := by decide +kernel
theorem d_N_step_38 : decode prog_1_method_11_code 38 = .ok (.getfield 138, 3) := by decide +kernel
theorem d_N_step_41 : decode prog_1_method_11_code 41 = .ok (.iload_n 1, 1) := by decide +kernel
theorem d_N_step_42 : decode prog_1_method_11_code 42 = .ok (.iaload, 1) := by decide +kernel
theorem d_N_step_43 : decode prog_1_method_11_code 43 = .ok (.istore 4, 2) := by decide +kernel
theorem d_N_step_45 : decode prog_1_method_11_code 45 = .ok (.aload_n 3, 1) := by decide +kernel
theorem d_N_step_46 : decode prog_1_method_11_code 46 = .ok (.getfield 141, 3) := by decide +kernel
theorem d_N_step_49 : decode prog_1_method_11_code 49 = .ok (.iload 4, 2) := by decide +kernel
theorem d_N_step_51 : decode prog_1_method_11_code 51 = .ok (.iaload, 1) := by decide +kernel
theorem d_N_step_52 : decode prog_1_method_11_code 52 = .ok (.istore 5, 2) := by decide +kernel
theorem d_N_step_54 : decode prog_1_method_11_code 54 = .ok (.iload_n 2, 1) := by decide +kernel
theorem d_N_step_55 : decode prog_1_method_11_code 55 = .ok (.ifCond .ne 8, 3) := by decide +kernel
theorem d_N_step_58 : decode prog_1_method_11_code 58 = .ok (.iload 5, 2) := by decide +kernel
theorem d_N_step_60 : decode prog_1_method_11_code 60 = .ok (.goto 8, 3) := by decide +kernel
theorem d_N_step_63 : decode prog_1_method_11_code 63 = .ok (.iload 4, 2) := by decide +kernel
theorem d_N_step_65 : decode prog_1_method_11_code 65 = .ok (.iload 5, 2) := by decide +kernel
theorem d_N_step_67 : decode prog_1_method_11_code 67 = .ok (.ixor, 1) := by decide +kernel
theorem d_N_step_68 : decode prog_1_method_11_code 68 = .ok (.ireturn, 1) := by decide +kernel
theorem d_N_greedy_0 : decode prog_1_method_12_code 0 = .ok (.aload_n 0, 1) := by decide +kernel
theorem d_N_greedy_1 : decode prog_1_method_12_code 1 = .ok (.invokevirtual 103, 3) := by decide +kernel
theorem d_N_greedy_4 : decode prog_1_method_12_code 4 = .ok (.ifCond .ne 5, 3) := by decide +kernel
theorem d_N_greedy_7 : decode prog_1_method_12_code 7 = .ok (.iconst (-1), 1) := by decide +kernel
theorem d_N_greedy_8 : decode prog_1_method_12_code 8 = .ok (.ireturn, 1) := by decide +kernel
theorem d_N_greedy_9 : decode prog_1_method_12_code 9 = .ok (.aload_n 0, 1) := by decide +kernel
theorem d_N_greedy_10 : decode prog_1_method_12_code 10 = .ok (.iconst 0, 1) := by decide +kernel
theorem d_N_greedy_11 : decode prog_1_method_12_code 11 = .ok (.invokevirtual 144, 3) := by decide +kernel
theorem d_N_greedy_14 : decode prog_1_method_12_code 14 = .ok (.aload_n 0, 1) := by decide +kernel
theorem d_N_greedy_15 : decode prog_1_method_12_code 15 = .ok (.getfield 39, 3) := by decide +kernel
theorem d_N_greedy_18 : decode prog_1_method_12_code 18 = .ok (.aload_n 0, 1) := by decide +kernel
theorem d_N_greedy_19 : decode prog_1_method_12_code 19 = .ok (.getfield 20, 3) := by decide +kernel
theorem d_N_greedy_22 : decode prog_1_method_12_code 22 = .ok (.aload_n 0, 1) := by decide +kernel
theorem d_N_greedy_23 : decode prog_1_method_12_code 23 = .ok (.getfield 53, 3) := by decide +kernel
theorem d_N_greedy_26 : decode prog_1_method_12_code 26 = .ok (.invokevirtual 147, 3) := by decide +kernel
theorem d_N_greedy_29 : decode prog_1_method_12_code 29 = .ok (.iload_n 1, 1) := by decide +kernel
theorem d_N_greedy_30 : decode prog_1_method_12_code 30 = .ok (.iconst (-1), 1) := by decide +kernel
theorem d_N_greedy_31 : decode prog_1_method_12_code 31 = .ok (.if_icmp .ne 11, 3) := by decide +kernel
theorem d_N_greedy_34 : decode prog_1_method_12_code 34 = .ok (.aload_n 0, 1) := by decide +kernel
theorem d_N_greedy_35 : decode prog_1_method_12_code 35 = .ok (.getfield 39, 3) := by decide +kernel
theorem d_N_greedy_38 : decode prog_1_method_12_code 38 = .ok (.getfield 150, 3) := by decide +kernel
theorem d_N_greedy_41 : decode prog_1_method_12_code 41 = .ok (.ireturn, 1) := by decide +kernel
theorem d_N_greedy_42 : decode prog_1_method_12_code 42 = .ok (.aload_n 0, 1) := by decide +kernel
theorem d_N_greedy_43 : decode prog_1_method_12_code 43 = .ok (.getfield 53, 3) := by decide +kernel
theorem d_N_greedy_46 : decode prog_1_method_12_code 46 = .ok (.iconst 1, 1) := by decide +kernel
theorem d_N_greedy_47 : decode prog_1_method_12_code 47 = .ok (.isub, 1) := by decide +kernel
theorem d_N_greedy_48 : decode prog_1_method_12_code 48 = .ok (.istore_n 2, 1) := by decide +kernel
theorem d_N_greedy_49 : decode prog_1_method_12_code 49 = .ok (.iload_n 1, 1) := by decide +kernel
theorem d_N_greedy_50 : decode prog_1_method_12_code 50 = .ok (.ifCond .lt 18, 3) := by decide +kernel
theorem d_N_greedy_53 : decode prog_1_method_12_code 53 = .ok (.iload_n 1, 1) := by decide +kernel
theorem d_N_greedy_54 : decode prog_1_method_12_code 54 = .ok (.iload_n 2, 1) := by decide +kernel
theorem d_N_greedy_55 : decode prog_1_method_12_code 55 = .ok (.if_icmp .ge 13, 3) := by decide +kernel
theorem d_N_greedy_58 : decode prog_1_method_12_code 58 = .ok (.aload_n 0, 1) := by decide +kernel
theorem d_N_greedy_59 : decode prog_1_method_12_code 59 = .ok (.getfield 39, 3) := by decide +kernel
theorem d_N_greedy_62 : decode prog_1_method_12_code 62 = .ok (.getfield 151, 3) := by decide +kernel
theorem d_N_greedy_65 : decode prog_1_method_12_code 65 = .ok (.iload_n 1, 1) := by decide +kernel
theorem d_N_greedy_66 : decode prog_1_method_12_code 66 = .ok (.iaload, 1) := by decide +kernel
theorem d_N_greedy_67 : decode prog_1_method_12_code 67 = .ok (.ireturn, 1) := by decide +kernel
theorem d_N_greedy_68 : decode prog_1_method_12_code 68 = .ok (.iload_n 1, 1) := by decide +kernel
theorem d_N_greedy_69 : decode prog_1_method_12_code 69 = .ok (.bipush 100, 2) := by decide +kernel
theorem d_N_greedy_71 : decode prog_1_method_12_code 71 = .ok (.if_icmp .lt 24, 3) := by decide +kernel
theorem d_N_greedy_74 : decode prog_1_method_12_code 74 = .ok (.iload_n 1, 1) := by decide +kernel
theorem d_N_greedy_75 : decode prog_1_method_12_code 75 = .ok (.bipush 100, 2) := by decide +kernel
theorem d_N_greedy_77 : decode prog_1_method_12_code 77 = .ok (.iload_n 2, 1) := by decide +kernel
theorem d_N_greedy_78 : decode prog_1_method_12_code 78 = .ok (.iadd, 1) := by decide +kernel
theorem d_N_greedy_79 : decode prog_1_method_12_code 79 = .ok (.if_icmp .ge 16, 3) := by decide +kernel
theorem d_N_greedy_82 : decode prog_1_method_12_code 82 = .ok (.aload_n 0, 1) := by decide +kernel
theorem d_N_greedy_83 : decode prog_1_method_12_code 83 = .ok (.getfield 39, 3) := by decide +kernel
theorem d_N_greedy_86 : decode prog_1_method_12_code 86 = .ok (.getfield 154, 3) := by decide +kernel
theorem d_N_greedy_89 : decode prog_1_method_12_code 89 = .ok (.iload_n 1, 1) := by decide +kernel
theorem d_N_greedy_90 : decode prog_1_method_12_code 90 = .ok (.bipush 100, 2) := by decide +kernel
theorem d_N_greedy_92 : decode prog_1_method_12_code 92 = .ok (.isub, 1) := by decide +kernel
theorem d_N_greedy_93 : decode prog_1_method_12_code 93 = .ok (.iaload, 1) := by decide +kernel
theorem d_N_greedy_94 : decode prog_1_method_12_code 94 = .ok (.ireturn, 1) := by decide +kernel
theorem d_N_greedy_95 : decode prog_1_method_12_code 95 = .ok (.iconst (-1), 1) := by decide +kernel
theorem d_N_greedy_96 : decode prog_1_method_12_code 96 = .ok (.ireturn, 1) := by decide +kernel
theorem d_N_cut_0 : decode prog_1_method_13_code 0 = .ok (.aload_n 0, 1) := by decide +kernel
theorem d_N_cut_1 : decode prog_1_method_13_code 1 = .ok (.invokevirtual 103, 3) := by decide +kernel
theorem d_N_cut_4 : decode prog_1_method_13_code 4 = .ok (.ifCond .eq 7, 3) := by decide +kernel
theorem d_N_cut_7 : decode prog_1_method_13_code 7 = .ok (.iload_n 1, 1) := by decide +kernel
theorem d_N_cut_8 : decode prog_1_method_13_code 8 = .ok (.ifCond .ge 5, 3) := by decide +kernel
theorem d_N_cut_11 : decode prog_1_method_13_code 11 = .ok (.iconst (-1), 1) := by decide +kernel
theorem d_N_cut_12 : decode prog_1_method_13_code 12 = .ok (.ireturn, 1) := by decide +kernel
theorem d_N_cut_13 : decode prog_1_method_13_code 13 = .ok (.aload_n 0, 1) := by decide +kernel
theorem d_N_cut_14 : decode prog_1_method_13_code 14 = .ok (.invokevirtual 128, 3) := by decide +kernel
theorem d_N_cut_17 : decode prog_1_method_13_code 17 = .ok (.getfield 135, 3) := by decide +kernel
theorem d_N_cut_20 : decode prog_1_method_13_code 20 = .ok (.iload_n 1, 1) := by decide +kernel
theorem d_N_cut_21 : decode prog_1_method_13_code 21 = .ok (.if_icmp .gt 5, 3) := by decide +kernel
theorem d_N_cut_24 : decode prog_1_method_13_code 24 = .ok (.iconst 0, 1) := by decide +kernel
theorem d_N_cut_25 : decode prog_1_method_13_code 25 = .ok (.ireturn, 1) := by decide +kernel
theorem d_N_cut_26 : decode prog_1_method_13_code 26 = .ok (.aload_n 0, 1) := by decide +kernel
theorem d_N_cut_27 : decode prog_1_method_13_code 27 = .ok (.invokevirtual 157, 3) := by decide +kernel
theorem d_N_cut_30 : decode prog_1_method_13_code 30 = .ok (.istore_n 2, 1) := by decide +kernel
theorem d_N_cut_31 : decode prog_1_method_13_code 31 = .ok (.aload_n 0, 1) := by decide +kernel
theorem d_N_cut_32 : decode prog_1_method_13_code 32 = .ok (.iload_n 2, 1) := by decide +kernel
theorem d_N_cut_33 : decode prog_1_method_13_code 33 = .ok (.iload_n 1, 1) := by decide +kernel
theorem d_N_cut_34 : decode prog_1_method_13_code 34 = .ok (.invokevirtual 161, 3) := by decide +kernel
theorem d_N_cut_37 : decode prog_1_method_13_code 37 = .ok (.istore_n 3, 1) := by decide +kernel
theorem d_N_cut_38 : decode prog_1_method_13_code 38 = .ok (.iload_n 3, 1) := by decide +kernel
theorem d_N_cut_39 : decode prog_1_method_13_code 39 = .ok (.iconst (-1), 1) := by decide +kernel
theorem d_N_cut_40 : decode prog_1_method_13_code 40 = .ok (.if_icmp .eq 7, 3) := by decide +kernel
theorem d_N_cut_43 : decode prog_1_method_13_code 43 = .ok (.iload_n 3, 1) := by decide +kernel
theorem d_N_cut_44 : decode prog_1_method_13_code 44 = .ok (.goto 9, 3) := by decide +kernel
theorem d_N_cut_47 : decode prog_1_method_13_code 47 = .ok (.aload_n 0, 1) := by decide +kernel
theorem d_N_cut_48 : decode prog_1_method_13_code 48 = .ok (.iload_n 2, 1) := by decide +kernel
theorem d_N_cut_49 : decode prog_1_method_13_code 49 = .ok (.iload_n 1, 1) := by decide +kernel
theorem d_N_cut_50 : decode prog_1_method_13_code 50 = .ok (.invokevirtual 165, 3) := by decide +kernel
theorem d_N_cut_53 : decode prog_1_method_13_code 53 = .ok (.ireturn, 1) := by decide +kernel
theorem d_N_namesBetweenTensors_0 : decode prog_1_method_22_code 0 = .ok (.iconst 0, 1) := by decide +kernel
theorem d_N_namesBetweenTensors_1 : decode prog_1_method_22_code 1 = .ok (.istore_n 1, 1) := by decide +kernel
theorem d_N_namesBetweenTensors_2 : decode prog_1_method_22_code 2 = .ok (.iconst 0, 1) := by decide +kernel
theorem d_N_namesBetweenTensors_3 : decode prog_1_method_22_code 3 = .ok (.istore_n 2, 1) := by decide +kernel
theorem d_N_namesBetweenTensors_4 : decode prog_1_method_22_code 4 = .ok (.iload_n 2, 1) := by decide +kernel
theorem d_N_namesBetweenTensors_5 : decode prog_1_method_22_code 5 = .ok (.aload_n 0, 1) := by decide +kernel
theorem d_N_namesBetweenTensors_6 : decode prog_1_method_22_code 6 = .ok (.getfield 53, 3) := by decide +kernel
theorem d_N_namesBetweenTensors_9 : decode prog_1_method_22_code 9 = .ok (.if_icmp .ge 21, 3) := by decide +kernel
theorem d_N_namesBetweenTensors_12 : decode prog_1_method_22_code 12 = .ok (.iload_n 1, 1) := by decide +kernel
theorem d_N_namesBetweenTensors_13 : decode prog_1_method_22_code 13 = .ok (.aload_n 0, 1) := by decide +kernel
theorem d_N_namesBetweenTensors_14 : decode prog_1_method_22_code 14 = .ok (.getfield 11, 3) := by decide +kernel
theorem d_N_namesBetweenTensors_17 : decode prog_1_method_22_code 17 = .ok (.iload_n 2, 1) := by decide +kernel
theorem d_N_namesBetweenTensors_18 : decode prog_1_method_22_code 18 = .ok (.aaload, 1) := by decide +kernel
theorem d_N_namesBetweenTensors_19 : decode prog_1_method_22_code 19 = .ok (.getfield 177, 3) := by decide +kernel
theorem d_N_namesBetweenTensors_22 : decode prog_1_method_22_code 22 = .ok (.ior, 1) := by decide +kernel
theorem d_N_namesBetweenTensors_23 : decode prog_1_method_22_code 23 = .ok (.istore_n 1, 1) := by decide +kernel
theorem d_N_namesBetweenTensors_24 : decode prog_1_method_22_code 24 = .ok (.iinc 2 1, 3) := by decide +kernel
theorem d_N_namesBetweenTensors_27 : decode prog_1_method_22_code 27 = .ok (.goto (-23), 3) := by decide +kernel
theorem d_N_namesBetweenTensors_30 : decode prog_1_method_22_code 30 = .ok (.iload_n 1, 1) := by decide +kernel
theorem d_N_namesBetweenTensors_31 : decode prog_1_method_22_code 31 = .ok (.aload_n 0, 1) := by decide +kernel
theorem d_N_namesBetweenTensors_32 : decode prog_1_method_22_code 32 = .ok (.iconst 2, 1) := by decide +kernel
theorem d_N_namesBetweenTensors_33 : decode prog_1_method_22_code 33 = .ok (.invokevirtual 107, 3) := by decide +kernel
theorem d_N_namesBetweenTensors_36 : decode prog_1_method_22_code 36 = .ok (.iand, 1) := by decide +kernel
theorem d_N_namesBetweenTensors_37 : decode prog_1_method_22_code 37 = .ok (.ireturn, 1) := by decide +kernel
theorem d_N_leastSingleCut_0 : decode prog_1_method_28_code 0 = .ok (.iconst 0, 1) := by decide +kernel
theorem d_N_leastSingleCut_1 : decode prog_1_method_28_code 1 = .ok (.istore_n 3, 1) := by decide +kernel
theorem d_N_leastSingleCut_2 : decode prog_1_method_28_code 2 = .ok (.iload_n 3, 1) := by decide +kernel
theorem d_N_leastSingleCut_3 : decode prog_1_method_28_code 3 = .ok (.bipush 20, 2) := by decide +kernel
theorem d_N_leastSingleCut_5 : decode prog_1_method_28_code 5 = .ok (.if_icmp .ge 31, 3) := by decide +kernel
theorem d_N_leastSingleCut_8 : decode prog_1_method_28_code 8 = .ok (.iload_n 3, 1) := by decide +kernel
theorem d_N_leastSingleCut_9 : decode prog_1_method_28_code 9 = .ok (.iload_n 1, 1) := by decide +kernel
theorem d_N_leastSingleCut_10 : decode prog_1_method_28_code 10 = .ok (.invokestatic 195, 3) := by decide +kernel
theorem d_N_leastSingleCut_13 : decode prog_1_method_28_code 13 = .ok (.ifCond .eq 17, 3) := by decide +kernel
theorem d_N_leastSingleCut_16 : decode prog_1_method_28_code 16 = .ok (.aload_n 0, 1) := by decide +kernel
theorem d_N_leastSingleCut_17 : decode prog_1_method_28_code 17 = .ok (.iload_n 3, 1) := by decide +kernel
theorem d_N_leastSingleCut_18 : decode prog_1_method_28_code 18 = .ok (.iload_n 3, 1) := by decide +kernel
theorem d_N_leastSingleCut_19 : decode prog_1_method_28_code 19 = .ok (.iload_n 2, 1) := by decide +kernel
theorem d_N_leastSingleCut_20 : decode prog_1_method_28_code 20 = .ok (.invokevirtual 198, 3) := by decide +kernel
theorem d_N_leastSingleCut_23 : decode prog_1_method_28_code 23 = .ok (.ifCond .eq 7, 3) := by decide +kernel
theorem d_N_leastSingleCut_26 : decode prog_1_method_28_code 26 = .ok (.iconst 1, 1) := by decide +kernel
theorem d_N_leastSingleCut_27 : decode prog_1_method_28_code 27 = .ok (.iload_n 3, 1) := by decide +kernel
theorem d_N_leastSingleCut_28 : decode prog_1_method_28_code 28 = .ok (.ishl, 1) := by decide +kernel
theorem d_N_leastSingleCut_29 : decode prog_1_method_28_code 29 = .ok (.ireturn, 1) := by decide +kernel
theorem d_N_leastSingleCut_30 : decode prog_1_method_28_code 30 = .ok (.iinc 3 1, 3) := by decide +kernel
theorem d_N_leastSingleCut_33 : decode prog_1_method_28_code 33 = .ok (.goto (-31), 3) := by decide +kernel
theorem d_N_leastSingleCut_36 : decode prog_1_method_28_code 36 = .ok (.iconst (-1), 1) := by decide +kernel
theorem d_N_leastSingleCut_37 : decode prog_1_method_28_code 37 = .ok (.ireturn, 1) := by decide +kernel
theorem d_N_isLowWhenCut_0 : decode prog_1_method_30_code 0 = .ok (.iconst 1, 1) := by decide +kernel
theorem d_N_isLowWhenCut_1 : decode prog_1_method_30_code 1 = .ok (.iload_n 1, 1) := by decide +kernel
theorem d_N_isLowWhenCut_2 : decode prog_1_method_30_code 2 = .ok (.ishl, 1) := by decide +kernel
theorem d_N_isLowWhenCut_3 : decode prog_1_method_30_code 3 = .ok (.iconst 1, 1) := by decide +kernel
theorem d_N_isLowWhenCut_4 : decode prog_1_method_30_code 4 = .ok (.iload_n 2, 1) := by decide +kernel
theorem d_N_isLowWhenCut_5 : decode prog_1_method_30_code 5 = .ok (.ishl, 1) := by decide +kernel
theorem d_N_isLowWhenCut_6 : decode prog_1_method_30_code 6 = .ok (.ior, 1) := by decide +kernel
theorem d_N_isLowWhenCut_7 : decode prog_1_method_30_code 7 = .ok (.istore 4, 2) := by decide +kernel
theorem d_N_isLowWhenCut_9 : decode prog_1_method_30_code 9 = .ok (.aload_n 0, 1) := by decide +kernel
theorem d_N_isLowWhenCut_10 : decode prog_1_method_30_code 10 = .ok (.iload 4, 2) := by decide +kernel
theorem d_N_isLowWhenCut_12 : decode prog_1_method_30_code 12 = .ok (.iload_n 3, 1) := by decide +kernel
theorem d_N_isLowWhenCut_13 : decode prog_1_method_30_code 13 = .ok (.invokevirtual 202, 3) := by decide +kernel
theorem d_N_isLowWhenCut_16 : decode prog_1_method_30_code 16 = .ok (.ifCond .ne 5, 3) := by decide +kernel
theorem d_N_isLowWhenCut_19 : decode prog_1_method_30_code 19 = .ok (.iconst 0, 1) := by decide +kernel
theorem d_N_isLowWhenCut_20 : decode prog_1_method_30_code 20 = .ok (.ireturn, 1) := by decide +kernel
theorem d_N_isLowWhenCut_21 : decode prog_1_method_30_code 21 = .ok (.iload_n 1, 1) := by decide +kernel
theorem d_N_isLowWhenCut_22 : decode prog_1_method_30_code 22 = .ok (.bipush 20, 2) := by decide +kernel
theorem d_N_isLowWhenCut_24 : decode prog_1_method_30_code 24 = .ok (.imul, 1) := by decide +kernel
theorem d_N_isLowWhenCut_25 : decode prog_1_method_30_code 25 = .ok (.iload_n 2, 1) := by decide +kernel
theorem d_N_isLowWhenCut_26 : decode prog_1_method_30_code 26 = .ok (.iadd, 1) := by decide +kernel
theorem d_N_isLowWhenCut_27 : decode prog_1_method_30_code 27 = .ok (.istore 5, 2) := by decide +kernel
theorem d_N_isLowWhenCut_29 : decode prog_1_method_30_code 29 = .ok (.aload_n 0, 1) := by decide +kernel
theorem d_N_isLowWhenCut_30 : decode prog_1_method_30_code 30 = .ok (.getfield 23, 3) := by decide +kernel
theorem d_N_isLowWhenCut_33 : decode prog_1_method_30_code 33 = .ok (.iload 5, 2) := by decide +kernel
theorem d_N_isLowWhenCut_35 : decode prog_1_method_30_code 35 = .ok (.iaload, 1) := by decide +kernel
theorem d_N_isLowWhenCut_36 : decode prog_1_method_30_code 36 = .ok (.iconst (-1), 1) := by decide +kernel
theorem d_N_isLowWhenCut_37 : decode prog_1_method_30_code 37 = .ok (.if_icmp .ne 19, 3) := by decide +kernel
theorem d_N_isLowWhenCut_40 : decode prog_1_method_30_code 40 = .ok (.aload_n 0, 1) := by decide +kernel
theorem d_N_isLowWhenCut_41 : decode prog_1_method_30_code 41 = .ok (.getfield 23, 3) := by decide +kernel
theorem d_N_isLowWhenCut_44 : decode prog_1_method_30_code 44 = .ok (.iload 5, 2) := by decide +kernel
theorem d_N_isLowWhenCut_46 : decode prog_1_method_30_code 46 = .ok (.aload_n 0, 1) := by decide +kernel
theorem d_N_isLowWhenCut_47 : decode prog_1_method_30_code 47 = .ok (.iload 4, 2) := by decide +kernel
theorem d_N_isLowWhenCut_49 : decode prog_1_method_30_code 49 = .ok (.invokevirtual 168, 3) := by decide +kernel
theorem d_N_isLowWhenCut_52 : decode prog_1_method_30_code 52 = .ok (.getfield 135, 3) := by decide +kernel
theorem d_N_isLowWhenCut_55 : decode prog_1_method_30_code 55 = .ok (.iastore, 1) := by decide +kernel
theorem d_N_isLowWhenCut_56 : decode prog_1_method_30_code 56 = .ok (.aload_n 0, 1) := by decide +kernel
theorem d_N_isLowWhenCut_57 : decode prog_1_method_30_code 57 = .ok (.getfield 23, 3) := by decide +kernel
theorem d_N_isLowWhenCut_60 : decode prog_1_method_30_code 60 = .ok (.iload 5, 2) := by decide +kernel
theorem d_N_isLowWhenCut_62 : decode prog_1_method_30_code 62 = .ok (.iaload, 1) := by decide +kernel
theorem d_N_isLowWhenCut_63 : decode prog_1_method_30_code 63 = .ok (.iload_n 3, 1) := by decide +kernel
theorem d_N_isLowWhenCut_64 : decode prog_1_method_30_code 64 = .ok (.if_icmp .gt 7, 3) := by decide +kernel
theorem d_N_isLowWhenCut_67 : decode prog_1_method_30_code 67 = .ok (.iconst 1, 1) := by decide +kernel
theorem d_N_isLowWhenCut_68 : decode prog_1_method_30_code 68 = .ok (.goto 4, 3) := by decide +kernel
theorem d_N_isLowWhenCut_71 : decode prog_1_method_30_code 71 = .ok (.iconst 0, 1) := by decide +kernel
theorem d_N_isLowWhenCut_72 : decode prog_1_method_30_code 72 = .ok (.ireturn, 1) := by decide +kernel
theorem d_N_areTensorsLow_0 : decode prog_1_method_31_code 0 = .ok (.iconst 0, 1) := by decide +kernel
theorem d_N_areTensorsLow_1 : decode prog_1_method_31_code 1 = .ok (.istore_n 3, 1) := by decide +kernel
theorem d_N_areTensorsLow_2 : decode prog_1_method_31_code 2 = .ok (.iload_n 3, 1) := by decide +kernel
theorem d_N_areTensorsLow_3 : decode prog_1_method_31_code 3 = .ok (.aload_n 0, 1) := by decide +kernel
theorem d_N_areTensorsLow_4 : decode prog_1_method_31_code 4 = .ok (.getfield 53, 3) := by decide +kernel
theorem d_N_areTensorsLow_7 : decode prog_1_method_31_code 7 = .ok (.if_icmp .ge 31, 3) := by decide +kernel
theorem d_N_areTensorsLow_10 : decode prog_1_method_31_code 10 = .ok (.aload_n 0, 1) := by decide +kernel
theorem d_N_areTensorsLow_11 : decode prog_1_method_31_code 11 = .ok (.getfield 11, 3) := by decide +kernel
theorem d_N_areTensorsLow_14 : decode prog_1_method_31_code 14 = .ok (.iload_n 3, 1) := by decide +kernel
theorem d_N_areTensorsLow_15 : decode prog_1_method_31_code 15 = .ok (.aaload, 1) := by decide +kernel
theorem d_N_areTensorsLow_16 : decode prog_1_method_31_code 16 = .ok (.getfield 177, 3) := by decide +kernel
theorem d_N_areTensorsLow_19 : decode prog_1_method_31_code 19 = .ok (.iload_n 1, 1) := by decide +kernel
theorem d_N_areTensorsLow_20 : decode prog_1_method_31_code 20 = .ok (.iconst (-1), 1) := by decide +kernel
theorem d_N_areTensorsLow_21 : decode prog_1_method_31_code 21 = .ok (.ixor, 1) := by decide +kernel
theorem d_N_areTensorsLow_22 : decode prog_1_method_31_code 22 = .ok (.iand, 1) := by decide +kernel
theorem d_N_areTensorsLow_23 : decode prog_1_method_31_code 23 = .ok (.invokestatic 172, 3) := by decide +kernel
theorem d_N_areTensorsLow_26 : decode prog_1_method_31_code 26 = .ok (.iload_n 2, 1) := by decide +kernel
theorem d_N_areTensorsLow_27 : decode prog_1_method_31_code 27 = .ok (.if_icmp .le 5, 3) := by decide +kernel
theorem d_N_areTensorsLow_30 : decode prog_1_method_31_code 30 = .ok (.iconst 0, 1) := by decide +kernel
theorem d_N_areTensorsLow_31 : decode prog_1_method_31_code 31 = .ok (.ireturn, 1) := by decide +kernel
theorem d_N_areTensorsLow_32 : decode prog_1_method_31_code 32 = .ok (.iinc 3 1, 3) := by decide +kernel
theorem d_N_areTensorsLow_35 : decode prog_1_method_31_code 35 = .ok (.goto (-33), 3) := by decide +kernel
theorem d_N_areTensorsLow_38 : decode prog_1_method_31_code 38 = .ok (.iconst 1, 1) := by decide +kernel
theorem d_N_areTensorsLow_39 : decode prog_1_method_31_code 39 = .ok (.ireturn, 1) := by decide +kernel
theorem d_N_orderWhenCut_0 : decode prog_1_method_27_code 0 = .ok (.aload_n 0, 1) := by decide +kernel
theorem d_N_orderWhenCut_1 : decode prog_1_method_27_code 1 = .ok (.getfield 184, 3) := by decide +kernel
theorem d_N_orderWhenCut_4 : decode prog_1_method_27_code 4 = .ok (.iload_n 1, 1) := by decide +kernel
theorem d_N_orderWhenCut_5 : decode prog_1_method_27_code 5 = .ok (.if_icmp .eq 17, 3) := by decide +kernel
theorem d_N_orderWhenCut_8 : decode prog_1_method_27_code 8 = .ok (.aload_n 0, 1) := by decide +kernel
theorem d_N_orderWhenCut_9 : decode prog_1_method_27_code 9 = .ok (.aload_n 0, 1) := by decide +kernel
theorem d_N_orderWhenCut_10 : decode prog_1_method_27_code 10 = .ok (.getfield 33, 3) := by decide +kernel
theorem d_N_orderWhenCut_13 : decode prog_1_method_27_code 13 = .ok (.iload_n 1, 1) := by decide +kernel
theorem d_N_orderWhenCut_14 : decode prog_1_method_27_code 14 = .ok (.invokevirtual 191, 3) := by decide +kernel
theorem d_N_orderWhenCut_17 : decode prog_1_method_27_code 17 = .ok (.aload_n 0, 1) := by decide +kernel
theorem d_N_orderWhenCut_18 : decode prog_1_method_27_code 18 = .ok (.iload_n 1, 1) := by decide +kernel
theorem d_N_orderWhenCut_19 : decode prog_1_method_27_code 19 = .ok (.putfield 184, 3) := by decide +kernel
theorem d_N_orderWhenCut_22 : decode prog_1_method_27_code 22 = .ok (.aload_n 0, 1) := by decide +kernel
theorem d_N_orderWhenCut_23 : decode prog_1_method_27_code 23 = .ok (.getfield 33, 3) := by decide +kernel
theorem d_N_orderWhenCut_26 : decode prog_1_method_27_code 26 = .ok (.areturn, 1) := by decide +kernel
theorem d_N_leastDoubleCut_0 : decode prog_1_method_29_code 0 = .ok (.iconst 1, 1) := by decide +kernel
theorem d_N_leastDoubleCut_1 : decode prog_1_method_29_code 1 = .ok (.istore_n 3, 1) := by decide +kernel
theorem d_N_leastDoubleCut_2 : decode prog_1_method_29_code 2 = .ok (.iload_n 3, 1) := by decide +kernel
theorem d_N_leastDoubleCut_3 : decode prog_1_method_29_code 3 = .ok (.bipush 20, 2) := by decide +kernel
theorem d_N_leastDoubleCut_5 : decode prog_1_method_29_code 5 = .ok (.if_icmp .ge 61, 3) := by decide +kernel
theorem d_N_leastDoubleCut_8 : decode prog_1_method_29_code 8 = .ok (.iconst 0, 1) := by decide +kernel
theorem d_N_leastDoubleCut_9 : decode prog_1_method_29_code 9 = .ok (.istore 4, 2) := by decide +kernel
theorem d_N_leastDoubleCut_11 : decode prog_1_method_29_code 11 = .ok (.iload 4, 2) := by decide +kernel
theorem d_N_leastDoubleCut_13 : decode prog_1_method_29_code 13 = .ok (.iload_n 3, 1) := by decide +kernel
theorem d_N_leastDoubleCut_14 : decode prog_1_method_29_code 14 = .ok (.if_icmp .ge 46, 3) := by decide +kernel
theorem d_N_leastDoubleCut_17 : decode prog_1_method_29_code 17 = .ok (.iload_n 3, 1) := by decide +kernel
theorem d_N_leastDoubleCut_18 : decode prog_1_method_29_code 18 = .ok (.iload_n 1, 1) := by decide +kernel
theorem d_N_leastDoubleCut_19 : decode prog_1_method_29_code 19 = .ok (.invokestatic 195, 3) := by decide +kernel
theorem d_N_leastDoubleCut_22 : decode prog_1_method_29_code 22 = .ok (.ifCond .eq 38, 3) := by decide +kernel
theorem d_N_leastDoubleCut_25 : decode prog_1_method_29_code 25 = .ok (.iload 4, 2) := by decide +kernel
theorem d_N_leastDoubleCut_27 : decode prog_1_method_29_code 27 = .ok (.iload_n 1, 1) := by decide +kernel
theorem d_N_leastDoubleCut_28 : decode prog_1_method_29_code 28 = .ok (.invokestatic 195, 3) := by decide +kernel
theorem d_N_leastDoubleCut_31 : decode prog_1_method_29_code 31 = .ok (.ifCond .eq 23, 3) := by decide +kernel
theorem d_N_leastDoubleCut_34 : decode prog_1_method_29_code 34 = .ok (.aload_n 0, 1) := by decide +kernel
theorem d_N_leastDoubleCut_35 : decode prog_1_method_29_code 35 = .ok (.iload_n 3, 1) := by decide +kernel
theorem d_N_leastDoubleCut_36 : decode prog_1_method_29_code 36 = .ok (.iload 4, 2) := by decide +kernel
theorem d_N_leastDoubleCut_38 : decode prog_1_method_29_code 38 = .ok (.iload_n 2, 1) := by decide +kernel
theorem d_N_leastDoubleCut_39 : decode prog_1_method_29_code 39 = .ok (.invokevirtual 198, 3) := by decide +kernel
theorem d_N_leastDoubleCut_42 : decode prog_1_method_29_code 42 = .ok (.ifCond .eq 12, 3) := by decide +kernel
theorem d_N_leastDoubleCut_45 : decode prog_1_method_29_code 45 = .ok (.iconst 1, 1) := by decide +kernel
theorem d_N_leastDoubleCut_46 : decode prog_1_method_29_code 46 = .ok (.iload_n 3, 1) := by decide +kernel
theorem d_N_leastDoubleCut_47 : decode prog_1_method_29_code 47 = .ok (.ishl, 1) := by decide +kernel
theorem d_N_leastDoubleCut_48 : decode prog_1_method_29_code 48 = .ok (.iconst 1, 1) := by decide +kernel
theorem d_N_leastDoubleCut_49 : decode prog_1_method_29_code 49 = .ok (.iload 4, 2) := by decide +kernel
theorem d_N_leastDoubleCut_51 : decode prog_1_method_29_code 51 = .ok (.ishl, 1) := by decide +kernel
theorem d_N_leastDoubleCut_52 : decode prog_1_method_29_code 52 = .ok (.ior, 1) := by decide +kernel
theorem d_N_leastDoubleCut_53 : decode prog_1_method_29_code 53 = .ok (.ireturn, 1) := by decide +kernel
theorem d_N_leastDoubleCut_54 : decode prog_1_method_29_code 54 = .ok (.iinc 4 1, 3) := by decide +kernel
theorem d_N_leastDoubleCut_57 : decode prog_1_method_29_code 57 = .ok (.goto (-46), 3) := by decide +kernel
theorem d_N_leastDoubleCut_60 : decode prog_1_method_29_code 60 = .ok (.iinc 3 1, 3) := by decide +kernel
theorem d_N_leastDoubleCut_63 : decode prog_1_method_29_code 63 = .ok (.goto (-61), 3) := by decide +kernel
theorem d_N_leastDoubleCut_66 : decode prog_1_method_29_code 66 = .ok (.iconst (-1), 1) := by decide +kernel
theorem d_N_leastDoubleCut_67 : decode prog_1_method_29_code 67 = .ok (.ireturn, 1) := by decide +kernel
theorem d_N_costOf_0 : decode prog_1_method_14_code 0 = .ok (.aload_n 0, 1) := by decide +kernel
theorem d_N_costOf_1 : decode prog_1_method_14_code 1 = .ok (.invokevirtual 103, 3) := by decide +kernel
theorem d_N_costOf_4 : decode prog_1_method_14_code 4 = .ok (.ifCond .eq 15, 3) := by decide +kernel
theorem d_N_costOf_7 : decode prog_1_method_14_code 7 = .ok (.iload_n 1, 1) := by decide +kernel
theorem d_N_costOf_8 : decode prog_1_method_14_code 8 = .ok (.aload_n 0, 1) := by decide +kernel
theorem d_N_costOf_9 : decode prog_1_method_14_code 9 = .ok (.iconst 2, 1) := by decide +kernel
theorem d_N_costOf_10 : decode prog_1_method_14_code 10 = .ok (.invokevirtual 107, 3) := by decide +kernel
theorem d_N_costOf_13 : decode prog_1_method_14_code 13 = .ok (.iconst (-1), 1) := by decide +kernel
theorem d_N_costOf_14 : decode prog_1_method_14_code 14 = .ok (.ixor, 1) := by decide +kernel
theorem d_N_costOf_15 : decode prog_1_method_14_code 15 = .ok (.iand, 1) := by decide +kernel
theorem d_N_costOf_16 : decode prog_1_method_14_code 16 = .ok (.ifCond .eq 5, 3) := by decide +kernel
theorem d_N_costOf_19 : decode prog_1_method_14_code 19 = .ok (.iconst (-1), 1) := by decide +kernel
theorem d_N_costOf_20 : decode prog_1_method_14_code 20 = .ok (.ireturn, 1) := by decide +kernel
theorem d_N_costOf_21 : decode prog_1_method_14_code 21 = .ok (.iload_n 1, 1) := by decide +kernel
theorem d_N_costOf_22 : decode prog_1_method_14_code 22 = .ok (.ifCond .ne 10, 3) := by decide +kernel
theorem d_N_costOf_25 : decode prog_1_method_14_code 25 = .ok (.aload_n 0, 1) := by decide +kernel
theorem d_N_costOf_26 : decode prog_1_method_14_code 26 = .ok (.invokevirtual 128, 3) := by decide +kernel
theorem d_N_costOf_29 : decode prog_1_method_14_code 29 = .ok (.goto 8, 3) := by decide +kernel
theorem d_N_costOf_32 : decode prog_1_method_14_code 32 = .ok (.aload_n 0, 1) := by decide +kernel
theorem d_N_costOf_33 : decode prog_1_method_14_code 33 = .ok (.iload_n 1, 1) := by decide +kernel
theorem d_N_costOf_34 : decode prog_1_method_14_code 34 = .ok (.invokevirtual 168, 3) := by decide +kernel
theorem d_N_costOf_37 : decode prog_1_method_14_code 37 = .ok (.astore_n 2, 1) := by decide +kernel
theorem d_N_costOf_38 : decode prog_1_method_14_code 38 = .ok (.aload_n 2, 1) := by decide +kernel
theorem d_N_costOf_39 : decode prog_1_method_14_code 39 = .ok (.getfield 132, 3) := by decide +kernel
theorem d_N_costOf_42 : decode prog_1_method_14_code 42 = .ok (.iload_n 1, 1) := by decide +kernel
theorem d_N_costOf_43 : decode prog_1_method_14_code 43 = .ok (.invokestatic 172, 3) := by decide +kernel
theorem d_N_costOf_46 : decode prog_1_method_14_code 46 = .ok (.ishl, 1) := by decide +kernel
theorem d_N_costOf_47 : decode prog_1_method_14_code 47 = .ok (.ireturn, 1) := by decide +kernel
theorem d_N_total_0 : decode prog_1_method_15_code 0 = .ok (.iload_n 1, 1) := by decide +kernel
theorem d_N_total_1 : decode prog_1_method_15_code 1 = .ok (.tableswitch 63 0 3 #[31, 36, 41, 46], 31) := by decide +kernel
theorem d_N_total_32 : decode prog_1_method_15_code 32 = .ok (.aload_n 0, 1) := by decide +kernel
theorem d_N_total_33 : decode prog_1_method_15_code 33 = .ok (.getfield 53, 3) := by decide +kernel
theorem d_N_total_36 : decode prog_1_method_15_code 36 = .ok (.ireturn, 1) := by decide +kernel
theorem d_N_total_37 : decode prog_1_method_15_code 37 = .ok (.aload_n 0, 1) := by decide +kernel
theorem d_N_total_38 : decode prog_1_method_15_code 38 = .ok (.getfield 61, 3) := by decide +kernel
theorem d_N_total_41 : decode prog_1_method_15_code 41 = .ok (.ireturn, 1) := by decide +kernel
theorem d_N_total_42 : decode prog_1_method_15_code 42 = .ok (.aload_n 0, 1) := by decide +kernel
theorem d_N_total_43 : decode prog_1_method_15_code 43 = .ok (.getfield 64, 3) := by decide +kernel
theorem d_N_total_46 : decode prog_1_method_15_code 46 = .ok (.ireturn, 1) := by decide +kernel
theorem d_N_total_47 : decode prog_1_method_15_code 47 = .ok (.aload_n 0, 1) := by decide +kernel
theorem d_N_total_48 : decode prog_1_method_15_code 48 = .ok (.invokevirtual 103, 3) := by decide +kernel
theorem d_N_total_51 : decode prog_1_method_15_code 51 = .ok (.ifCond .eq 11, 3) := by decide +kernel
theorem d_N_total_54 : decode prog_1_method_15_code 54 = .ok (.aload_n 0, 1) := by decide +kernel
theorem d_N_total_55 : decode prog_1_method_15_code 55 = .ok (.iconst 2, 1) := by decide +kernel
theorem d_N_total_56 : decode prog_1_method_15_code 56 = .ok (.invokevirtual 107, 3) := by decide +kernel
theorem d_N_total_59 : decode prog_1_method_15_code 59 = .ok (.goto 4, 3) := by decide +kernel
theorem d_N_total_62 : decode prog_1_method_15_code 62 = .ok (.iconst 0, 1) := by decide +kernel
theorem d_N_total_63 : decode prog_1_method_15_code 63 = .ok (.ireturn, 1) := by decide +kernel
theorem d_N_total_64 : decode prog_1_method_15_code 64 = .ok (.iconst (-1), 1) := by decide +kernel
theorem d_N_total_65 : decode prog_1_method_15_code 65 = .ok (.ireturn, 1) := by decide +kernel
theorem d_N_value_0 : decode prog_1_method_7_code 0 = .ok (.aload_n 0, 1) := by decide +kernel
theorem d_N_value_1 : decode prog_1_method_7_code 1 = .ok (.iload_n 1, 1) := by decide +kernel
theorem d_N_value_2 : decode prog_1_method_7_code 2 = .ok (.iload_n 2, 1) := by decide +kernel
theorem d_N_value_3 : decode prog_1_method_7_code 3 = .ok (.invokevirtual 111, 3) := by decide +kernel
theorem d_N_value_6 : decode prog_1_method_7_code 6 = .ok (.aload_n 0, 1) := by decide +kernel
theorem d_N_value_7 : decode prog_1_method_7_code 7 = .ok (.invokevirtual 114, 3) := by decide +kernel
theorem d_N_value_10 : decode prog_1_method_7_code 10 = .ok (.aload_n 0, 1) := by decide +kernel
theorem d_N_value_11 : decode prog_1_method_7_code 11 = .ok (.iconst (-1), 1) := by decide +kernel
theorem d_N_value_12 : decode prog_1_method_7_code 12 = .ok (.iconst (-1), 1) := by decide +kernel
theorem d_N_value_13 : decode prog_1_method_7_code 13 = .ok (.iload_n 1, 1) := by decide +kernel
theorem d_N_value_14 : decode prog_1_method_7_code 14 = .ok (.iload_n 2, 1) := by decide +kernel
theorem d_N_value_15 : decode prog_1_method_7_code 15 = .ok (.invokevirtual 117, 3) := by decide +kernel
theorem d_N_value_18 : decode prog_1_method_7_code 18 = .ok (.lreturn, 1) := by decide +kernel
theorem d_N_refuseUnknown_0 : decode prog_1_method_32_code 0 = .ok (.aload_n 0, 1) := by decide +kernel
theorem d_N_refuseUnknown_1 : decode prog_1_method_32_code 1 = .ok (.invokevirtual 103, 3) := by decide +kernel
theorem d_N_refuseUnknown_4 : decode prog_1_method_32_code 4 = .ok (.ifCond .ne 13, 3) := by decide +kernel
theorem d_N_refuseUnknown_7 : decode prog_1_method_32_code 7 = .ok (.new 121, 3) := by decide +kernel
theorem d_N_refuseUnknown_10 : decode prog_1_method_32_code 10 = .ok (.dup, 1) := by decide +kernel
theorem d_N_refuseUnknown_11 : decode prog_1_method_32_code 11 = .ok (.ldc 205, 2) := by decide +kernel
theorem d_N_refuseUnknown_13 : decode prog_1_method_32_code 13 = .ok (.invokespecial 125, 3) := by decide +kernel
theorem d_N_refuseUnknown_16 : decode prog_1_method_32_code 16 = .ok (.athrow, 1) := by decide +kernel
theorem d_N_refuseUnknown_17 : decode prog_1_method_32_code 17 = .ok (.iload_n 2, 1) := by decide +kernel
theorem d_N_refuseUnknown_18 : decode prog_1_method_32_code 18 = .ok (.ifCond .lt 8, 3) := by decide +kernel
theorem d_N_refuseUnknown_21 : decode prog_1_method_32_code 21 = .ok (.iload_n 2, 1) := by decide +kernel
theorem d_N_refuseUnknown_22 : decode prog_1_method_32_code 22 = .ok (.iconst 1, 1) := by decide +kernel
theorem d_N_refuseUnknown_23 : decode prog_1_method_32_code 23 = .ok (.if_icmp .le 13, 3) := by decide +kernel
theorem d_N_refuseUnknown_26 : decode prog_1_method_32_code 26 = .ok (.new 121, 3) := by decide +kernel
theorem d_N_refuseUnknown_29 : decode prog_1_method_32_code 29 = .ok (.dup, 1) := by decide +kernel
theorem d_N_refuseUnknown_30 : decode prog_1_method_32_code 30 = .ok (.ldc 207, 2) := by decide +kernel
theorem d_N_refuseUnknown_32 : decode prog_1_method_32_code 32 = .ok (.invokespecial 125, 3) := by decide +kernel
theorem d_N_refuseUnknown_35 : decode prog_1_method_32_code 35 = .ok (.athrow, 1) := by decide +kernel
theorem d_N_refuseUnknown_36 : decode prog_1_method_32_code 36 = .ok (.iload_n 1, 1) := by decide +kernel
theorem d_N_refuseUnknown_37 : decode prog_1_method_32_code 37 = .ok (.ifCond .lt 17, 3) := by decide +kernel
theorem d_N_refuseUnknown_40 : decode prog_1_method_32_code 40 = .ok (.iload_n 1, 1) := by decide +kernel
theorem d_N_refuseUnknown_41 : decode prog_1_method_32_code 41 = .ok (.iconst 1, 1) := by decide +kernel
theorem d_N_refuseUnknown_42 : decode prog_1_method_32_code 42 = .ok (.aload_n 0, 1) := by decide +kernel
theorem d_N_refuseUnknown_43 : decode prog_1_method_32_code 43 = .ok (.iconst 1, 1) := by decide +kernel
theorem d_N_refuseUnknown_44 : decode prog_1_method_32_code 44 = .ok (.invokevirtual 107, 3) := by decide +kernel
theorem d_N_refuseUnknown_47 : decode prog_1_method_32_code 47 = .ok (.invokestatic 172, 3) := by decide +kernel
theorem d_N_refuseUnknown_50 : decode prog_1_method_32_code 50 = .ok (.ishl, 1) := by decide +kernel
theorem d_N_refuseUnknown_51 : decode prog_1_method_32_code 51 = .ok (.if_icmp .lt 13, 3) := by decide +kernel
theorem d_N_refuseUnknown_54 : decode prog_1_method_32_code 54 = .ok (.new 121, 3) := by decide +kernel
theorem d_N_refuseUnknown_57 : decode prog_1_method_32_code 57 = .ok (.dup, 1) := by decide +kernel
theorem d_N_refuseUnknown_58 : decode prog_1_method_32_code 58 = .ok (.ldc 209, 2) := by decide +kernel
theorem d_N_refuseUnknown_60 : decode prog_1_method_32_code 60 = .ok (.invokespecial 125, 3) := by decide +kernel
theorem d_N_refuseUnknown_63 : decode prog_1_method_32_code 63 = .ok (.athrow, 1) := by decide +kernel
theorem d_N_refuseUnknown_64 : decode prog_1_method_32_code 64 = .ok (.return_, 1) := by decide +kernel
theorem d_N_refuseHighPeak_0 : decode prog_1_method_33_code 0 = .ok (.aload_n 0, 1) := by decide +kernel
theorem d_N_refuseHighPeak_1 : decode prog_1_method_33_code 1 = .ok (.invokevirtual 128, 3) := by decide +kernel
theorem d_N_refuseHighPeak_4 : decode prog_1_method_33_code 4 = .ok (.getfield 135, 3) := by decide +kernel
theorem d_N_refuseHighPeak_7 : decode prog_1_method_33_code 7 = .ok (.bipush 12, 2) := by decide +kernel
theorem d_N_refuseHighPeak_9 : decode prog_1_method_33_code 9 = .ok (.if_icmp .le 13, 3) := by decide +kernel
theorem d_N_refuseHighPeak_12 : decode prog_1_method_33_code 12 = .ok (.new 211, 3) := by decide +kernel
theorem d_N_refuseHighPeak_15 : decode prog_1_method_33_code 15 = .ok (.dup, 1) := by decide +kernel
theorem d_N_refuseHighPeak_16 : decode prog_1_method_33_code 16 = .ok (.ldc 213, 2) := by decide +kernel
theorem d_N_refuseHighPeak_18 : decode prog_1_method_33_code 18 = .ok (.invokespecial 215, 3) := by decide +kernel
theorem d_N_refuseHighPeak_21 : decode prog_1_method_33_code 21 = .ok (.athrow, 1) := by decide +kernel
theorem d_N_refuseHighPeak_22 : decode prog_1_method_33_code 22 = .ok (.return_, 1) := by decide +kernel
theorem d_N_contracted_0 : decode prog_1_method_34_code 0 = .ok (.aload_n 0, 1) := by decide +kernel
theorem d_N_contracted_1 : decode prog_1_method_34_code 1 = .ok (.iconst 1, 1) := by decide +kernel
theorem d_N_contracted_2 : decode prog_1_method_34_code 2 = .ok (.invokevirtual 107, 3) := by decide +kernel
theorem d_N_contracted_5 : decode prog_1_method_34_code 5 = .ok (.istore 5, 2) := by decide +kernel
theorem d_N_contracted_7 : decode prog_1_method_34_code 7 = .ok (.iload_n 3, 1) := by decide +kernel
theorem d_N_contracted_8 : decode prog_1_method_34_code 8 = .ok (.iload 5, 2) := by decide +kernel
theorem d_N_contracted_10 : decode prog_1_method_34_code 10 = .ok (.invokestatic 216, 3) := by decide +kernel
theorem d_N_contracted_13 : decode prog_1_method_34_code 13 = .ok (.istore 6, 2) := by decide +kernel
theorem d_N_contracted_15 : decode prog_1_method_34_code 15 = .ok (.aload_n 0, 1) := by decide +kernel
theorem d_N_contracted_16 : decode prog_1_method_34_code 16 = .ok (.invokevirtual 128, 3) := by decide +kernel
theorem d_N_contracted_19 : decode prog_1_method_34_code 19 = .ok (.astore 7, 2) := by decide +kernel
theorem d_N_contracted_21 : decode prog_1_method_34_code 21 = .ok (.aload_n 0, 1) := by decide +kernel
theorem d_N_contracted_22 : decode prog_1_method_34_code 22 = .ok (.getfield 46, 3) := by decide +kernel
theorem d_N_contracted_25 : decode prog_1_method_34_code 25 = .ok (.aload 7, 2) := by decide +kernel
theorem d_N_contracted_27 : decode prog_1_method_34_code 27 = .ok (.aload_n 0, 1) := by decide +kernel
theorem d_N_contracted_28 : decode prog_1_method_34_code 28 = .ok (.getfield 53, 3) := by decide +kernel
theorem d_N_contracted_31 : decode prog_1_method_34_code 31 = .ok (.iload 5, 2) := by decide +kernel
theorem d_N_contracted_33 : decode prog_1_method_34_code 33 = .ok (.invokevirtual 219, 3) := by decide +kernel
theorem d_N_contracted_36 : decode prog_1_method_34_code 36 = .ok (.iconst 0, 1) := by decide +kernel
theorem d_N_contracted_37 : decode prog_1_method_34_code 37 = .ok (.istore 8, 2) := by decide +kernel
theorem d_N_contracted_39 : decode prog_1_method_34_code 39 = .ok (.iload 8, 2) := by decide +kernel
theorem d_N_contracted_41 : decode prog_1_method_34_code 41 = .ok (.aload_n 0, 1) := by decide +kernel
theorem d_N_contracted_42 : decode prog_1_method_34_code 42 = .ok (.getfield 53, 3) := by decide +kernel
theorem d_N_contracted_45 : decode prog_1_method_34_code 45 = .ok (.if_icmp .ge 38, 3) := by decide +kernel
theorem d_N_contracted_48 : decode prog_1_method_34_code 48 = .ok (.aload_n 0, 1) := by decide +kernel
theorem d_N_contracted_49 : decode prog_1_method_34_code 49 = .ok (.getfield 46, 3) := by decide +kernel
theorem d_N_contracted_52 : decode prog_1_method_34_code 52 = .ok (.iload 8, 2) := by decide +kernel
theorem d_N_contracted_54 : decode prog_1_method_34_code 54 = .ok (.aload_n 0, 1) := by decide +kernel
theorem d_N_contracted_55 : decode prog_1_method_34_code 55 = .ok (.getfield 11, 3) := by decide +kernel
theorem d_N_contracted_58 : decode prog_1_method_34_code 58 = .ok (.iload 8, 2) := by decide +kernel
theorem d_N_contracted_60 : decode prog_1_method_34_code 60 = .ok (.aaload, 1) := by decide +kernel
theorem d_N_contracted_61 : decode prog_1_method_34_code 61 = .ok (.iload 6, 2) := by decide +kernel
theorem d_N_contracted_63 : decode prog_1_method_34_code 63 = .ok (.iload 8, 2) := by decide +kernel
theorem d_N_contracted_65 : decode prog_1_method_34_code 65 = .ok (.iload_n 1, 1) := by decide +kernel
theorem d_N_contracted_66 : decode prog_1_method_34_code 66 = .ok (.if_icmp .ne 7, 3) := by decide +kernel
theorem d_N_contracted_69 : decode prog_1_method_34_code 69 = .ok (.iload_n 2, 1) := by decide +kernel
theorem d_N_contracted_70 : decode prog_1_method_34_code 70 = .ok (.goto 4, 3) := by decide +kernel
theorem d_N_contracted_73 : decode prog_1_method_34_code 73 = .ok (.iconst (-1), 1) := by decide +kernel
theorem d_N_contracted_74 : decode prog_1_method_34_code 74 = .ok (.invokevirtual 223, 3) := by decide +kernel
theorem d_N_contracted_77 : decode prog_1_method_34_code 77 = .ok (.iinc 8 1, 3) := by decide +kernel
theorem d_N_contracted_80 : decode prog_1_method_34_code 80 = .ok (.goto (-41), 3) := by decide +kernel
theorem d_N_contracted_83 : decode prog_1_method_34_code 83 = .ok (.aload_n 0, 1) := by decide +kernel
theorem d_N_contracted_84 : decode prog_1_method_34_code 84 = .ok (.getfield 46, 3) := by decide +kernel
theorem d_N_contracted_87 : decode prog_1_method_34_code 87 = .ok (.aload 7, 2) := by decide +kernel
theorem d_N_contracted_89 : decode prog_1_method_34_code 89 = .ok (.aload_n 0, 1) := by decide +kernel
theorem d_N_contracted_90 : decode prog_1_method_34_code 90 = .ok (.getfield 53, 3) := by decide +kernel
theorem d_N_contracted_93 : decode prog_1_method_34_code 93 = .ok (.invokevirtual 227, 3) := by decide +kernel
theorem d_N_contracted_96 : decode prog_1_method_34_code 96 = .ok (.iload 4, 2) := by decide +kernel
theorem d_N_contracted_98 : decode prog_1_method_34_code 98 = .ok (.ifCond .ne 13, 3) := by decide +kernel
theorem d_N_contracted_101 : decode prog_1_method_34_code 101 = .ok (.aload_n 0, 1) := by decide +kernel
theorem d_N_contracted_102 : decode prog_1_method_34_code 102 = .ok (.getfield 46, 3) := by decide +kernel
theorem d_N_contracted_105 : decode prog_1_method_34_code 105 = .ok (.invokevirtual 229, 3) := by decide +kernel
theorem d_N_contracted_108 : decode prog_1_method_34_code 108 = .ok (.goto 10, 3) := by decide +kernel
theorem d_N_contracted_111 : decode prog_1_method_34_code 111 = .ok (.aload_n 0, 1) := by decide +kernel
theorem d_N_contracted_112 : decode prog_1_method_34_code 112 = .ok (.getfield 46, 3) := by decide +kernel
theorem d_N_contracted_115 : decode prog_1_method_34_code 115 = .ok (.invokevirtual 233, 3) := by decide +kernel
theorem d_N_contracted_118 : decode prog_1_method_34_code 118 = .ok (.lreturn, 1) := by decide +kernel
theorem d_N_spread_0 : decode prog_1_method_36_code 0 = .ok (.iconst 0, 1) := by decide +kernel
theorem d_N_spread_1 : decode prog_1_method_36_code 1 = .ok (.istore_n 2, 1) := by decide +kernel
theorem d_N_spread_2 : decode prog_1_method_36_code 2 = .ok (.iconst 0, 1) := by decide +kernel
theorem d_N_spread_3 : decode prog_1_method_36_code 3 = .ok (.istore_n 3, 1) := by decide +kernel
theorem d_N_spread_4 : decode prog_1_method_36_code 4 = .ok (.iconst 0, 1) := by decide +kernel
theorem d_N_spread_5 : decode prog_1_method_36_code 5 = .ok (.istore 4, 2) := by decide +kernel
theorem d_N_spread_7 : decode prog_1_method_36_code 7 = .ok (.iload 4, 2) := by decide +kernel
theorem d_N_spread_9 : decode prog_1_method_36_code 9 = .ok (.bipush 20, 2) := by decide +kernel
theorem d_N_spread_11 : decode prog_1_method_36_code 11 = .ok (.if_icmp .ge 32, 3) := by decide +kernel
theorem d_N_spread_14 : decode prog_1_method_36_code 14 = .ok (.iload 4, 2) := by decide +kernel
theorem d_N_spread_16 : decode prog_1_method_36_code 16 = .ok (.iload_n 1, 1) := by decide +kernel
theorem d_N_spread_17 : decode prog_1_method_36_code 17 = .ok (.invokestatic 195, 3) := by decide +kernel
theorem d_N_spread_20 : decode prog_1_method_36_code 20 = .ok (.ifCond .eq 17, 3) := by decide +kernel
theorem d_N_spread_23 : decode prog_1_method_36_code 23 = .ok (.iload_n 2, 1) := by decide +kernel
theorem d_N_spread_24 : decode prog_1_method_36_code 24 = .ok (.iload_n 0, 1) := by decide +kernel
theorem d_N_spread_25 : decode prog_1_method_36_code 25 = .ok (.iload_n 3, 1) := by decide +kernel
theorem d_N_spread_26 : decode prog_1_method_36_code 26 = .ok (.ishr, 1) := by decide +kernel
theorem d_N_spread_27 : decode prog_1_method_36_code 27 = .ok (.iconst 1, 1) := by decide +kernel
theorem d_N_spread_28 : decode prog_1_method_36_code 28 = .ok (.iand, 1) := by decide +kernel
theorem d_N_spread_29 : decode prog_1_method_36_code 29 = .ok (.iload 4, 2) := by decide +kernel
theorem d_N_spread_31 : decode prog_1_method_36_code 31 = .ok (.ishl, 1) := by decide +kernel
theorem d_N_spread_32 : decode prog_1_method_36_code 32 = .ok (.ior, 1) := by decide +kernel
theorem d_N_spread_33 : decode prog_1_method_36_code 33 = .ok (.istore_n 2, 1) := by decide +kernel
theorem d_N_spread_34 : decode prog_1_method_36_code 34 = .ok (.iinc 3 1, 3) := by decide +kernel
theorem d_N_spread_37 : decode prog_1_method_36_code 37 = .ok (.iinc 4 1, 3) := by decide +kernel
theorem d_N_spread_40 : decode prog_1_method_36_code 40 = .ok (.goto (-33), 3) := by decide +kernel
theorem d_N_spread_43 : decode prog_1_method_36_code 43 = .ok (.iload_n 2, 1) := by decide +kernel
theorem d_N_spread_44 : decode prog_1_method_36_code 44 = .ok (.ireturn, 1) := by decide +kernel
theorem d_N_gather_0 : decode prog_1_method_37_code 0 = .ok (.iconst 0, 1) := by decide +kernel
theorem d_N_gather_1 : decode prog_1_method_37_code 1 = .ok (.istore_n 2, 1) := by decide +kernel
theorem d_N_gather_2 : decode prog_1_method_37_code 2 = .ok (.iconst 0, 1) := by decide +kernel
theorem d_N_gather_3 : decode prog_1_method_37_code 3 = .ok (.istore_n 3, 1) := by decide +kernel
theorem d_N_gather_4 : decode prog_1_method_37_code 4 = .ok (.iconst 0, 1) := by decide +kernel
theorem d_N_gather_5 : decode prog_1_method_37_code 5 = .ok (.istore 4, 2) := by decide +kernel
theorem d_N_gather_7 : decode prog_1_method_37_code 7 = .ok (.iload 4, 2) := by decide +kernel
theorem d_N_gather_9 : decode prog_1_method_37_code 9 = .ok (.bipush 20, 2) := by decide +kernel
theorem d_N_gather_11 : decode prog_1_method_37_code 11 = .ok (.if_icmp .ge 32, 3) := by decide +kernel
theorem d_N_gather_14 : decode prog_1_method_37_code 14 = .ok (.iload 4, 2) := by decide +kernel
theorem d_N_gather_16 : decode prog_1_method_37_code 16 = .ok (.iload_n 1, 1) := by decide +kernel
theorem d_N_gather_17 : decode prog_1_method_37_code 17 = .ok (.invokestatic 195, 3) := by decide +kernel
theorem d_N_gather_20 : decode prog_1_method_37_code 20 = .ok (.ifCond .eq 17, 3) := by decide +kernel
theorem d_N_gather_23 : decode prog_1_method_37_code 23 = .ok (.iload_n 2, 1) := by decide +kernel
theorem d_N_gather_24 : decode prog_1_method_37_code 24 = .ok (.iload_n 0, 1) := by decide +kernel
theorem d_N_gather_25 : decode prog_1_method_37_code 25 = .ok (.iload 4, 2) := by decide +kernel
theorem d_N_gather_27 : decode prog_1_method_37_code 27 = .ok (.ishr, 1) := by decide +kernel
theorem d_N_gather_28 : decode prog_1_method_37_code 28 = .ok (.iconst 1, 1) := by decide +kernel
theorem d_N_gather_29 : decode prog_1_method_37_code 29 = .ok (.iand, 1) := by decide +kernel
theorem d_N_gather_30 : decode prog_1_method_37_code 30 = .ok (.iload_n 3, 1) := by decide +kernel
theorem d_N_gather_31 : decode prog_1_method_37_code 31 = .ok (.ishl, 1) := by decide +kernel
theorem d_N_gather_32 : decode prog_1_method_37_code 32 = .ok (.ior, 1) := by decide +kernel
theorem d_N_gather_33 : decode prog_1_method_37_code 33 = .ok (.istore_n 2, 1) := by decide +kernel
theorem d_N_gather_34 : decode prog_1_method_37_code 34 = .ok (.iinc 3 1, 3) := by decide +kernel
theorem d_N_gather_37 : decode prog_1_method_37_code 37 = .ok (.iinc 4 1, 3) := by decide +kernel
theorem d_N_gather_40 : decode prog_1_method_37_code 40 = .ok (.goto (-33), 3) := by decide +kernel
theorem d_N_gather_43 : decode prog_1_method_37_code 43 = .ok (.iload_n 2, 1) := by decide +kernel
theorem d_N_gather_44 : decode prog_1_method_37_code 44 = .ok (.ireturn, 1) := by decide +kernel
theorem d_N_slope_0 : decode prog_1_method_8_code 0 = .ok (.aload_n 0, 1) := by decide +kernel
theorem d_N_slope_1 : decode prog_1_method_8_code 1 = .ok (.iload_n 3, 1) := by decide +kernel
theorem d_N_slope_2 : decode prog_1_method_8_code 2 = .ok (.iload 4, 2) := by decide +kernel
theorem d_N_slope_4 : decode prog_1_method_8_code 4 = .ok (.invokevirtual 111, 3) := by decide +kernel
theorem d_N_slope_7 : decode prog_1_method_8_code 7 = .ok (.aload_n 0, 1) := by decide +kernel
theorem d_N_slope_8 : decode prog_1_method_8_code 8 = .ok (.iload_n 1, 1) := by decide +kernel
theorem d_N_slope_9 : decode prog_1_method_8_code 9 = .ok (.iload_n 2, 1) := by decide +kernel
theorem d_N_slope_10 : decode prog_1_method_8_code 10 = .ok (.invokevirtual 84, 3) := by decide +kernel
theorem d_N_slope_13 : decode prog_1_method_8_code 13 = .ok (.ifCond .ne 13, 3) := by decide +kernel
theorem d_N_slope_16 : decode prog_1_method_8_code 16 = .ok (.new 121, 3) := by decide +kernel
theorem d_N_slope_19 : decode prog_1_method_8_code 19 = .ok (.dup, 1) := by decide +kernel
theorem d_N_slope_20 : decode prog_1_method_8_code 20 = .ok (.ldc 123, 2) := by decide +kernel
theorem d_N_slope_22 : decode prog_1_method_8_code 22 = .ok (.invokespecial 125, 3) := by decide +kernel
theorem d_N_slope_25 : decode prog_1_method_8_code 25 = .ok (.athrow, 1) := by decide +kernel
theorem d_N_slope_26 : decode prog_1_method_8_code 26 = .ok (.aload_n 0, 1) := by decide +kernel
theorem d_N_slope_27 : decode prog_1_method_8_code 27 = .ok (.invokevirtual 114, 3) := by decide +kernel
theorem d_N_slope_30 : decode prog_1_method_8_code 30 = .ok (.aload_n 0, 1) := by decide +kernel
theorem d_N_slope_31 : decode prog_1_method_8_code 31 = .ok (.iload_n 1, 1) := by decide +kernel
theorem d_N_slope_32 : decode prog_1_method_8_code 32 = .ok (.iload_n 2, 1) := by decide +kernel
theorem d_N_slope_33 : decode prog_1_method_8_code 33 = .ok (.iload_n 3, 1) := by decide +kernel
theorem d_N_slope_34 : decode prog_1_method_8_code 34 = .ok (.iload 4, 2) := by decide +kernel
theorem d_N_slope_36 : decode prog_1_method_8_code 36 = .ok (.invokevirtual 117, 3) := by decide +kernel
theorem d_N_slope_39 : decode prog_1_method_8_code 39 = .ok (.lreturn, 1) := by decide +kernel
end
section
-- THE LOGIC: a method's frame over a pure heap. hv_P: address to entry; hv_V: from here the method ends as Q says.
abbrev hv_A : Type := (Nat → Int32) ⊕ (Nat → Int64) ⊕ (Nat → Option Nat)
abbrev hv_E : Type := (Nat × Nat × hv_A) ⊕ (Nat × List Value)
abbrev hv_P : Type := Nat → Option hv_E
abbrev hv_D : Type := (Nat → ClassId) × (Nat → Nat → Nat) × (Nat → ClassId)
abbrev hv_R : Type := Option Value ⊕ Nat
/-- an array of ints, of longs, of references (its kind in hv_tys), an object of class c -/
abbrev eI (n : Nat) (f : Nat → Int32) : hv_E := .inl (0, n, .inl f)
abbrev eL (n : Nat) (f : Nat → Int64) : hv_E := .inl (1, n, .inr (.inl f))
abbrev eQ (k n : Nat) (f : Nat → Option Nat) : hv_E := .inl (k, n, .inr (.inr f))
abbrev eO (c : Nat) (fs : List Value) : hv_E := .inr (c, fs)
def hv_a (a : hv_A) : (Nat → Int32) ⊕ (Nat → Int64) ⊕ (Nat → UInt32) ⊕ (Nat → UInt64) ⊕ (Nat → Option Nat) := match a with
  | .inl f => .inl f
  | .inr (.inl f) => .inr (.inl f)
  | .inr (.inr f) => .inr (.inr (.inr (.inr f)))
def hv_e (dA : Nat → ClassId) (e : hv_E) : va_E := match e with
  | .inl (k, n, a) => .inl (dA k, n, hv_a a)
  | .inr o => .inr o
def hv_up (h : hv_P) (a : Nat) (e : hv_E) : hv_P := fun q => if q = a then some e else h q
theorem hv_up_s {h : hv_P} {a : Nat} {e : hv_E} : hv_up h a e a = some e := if_pos rfl
theorem hv_up_n {h : hv_P} {a q : Nat} {e : hv_E} (n : q ≠ a) : hv_up h a e q = h q := if_neg n
theorem hv_up_up {h : hv_P} {a : Nat} {e e' : hv_E} : hv_up (hv_up h a e) a e' = hv_up h a e' := by
  funext q
  by_cases n : q = a
  · rw [n, hv_up_s, hv_up_s]
  · rw [hv_up_n n, hv_up_n n, hv_up_n n]
def hv_at (D : hv_D) (h : hv_P) (H : Heap) : Prop := ∀ (a : Nat) (e : hv_E), h a = some e → va_at (D.1, D.2.1) vwCl (a, hv_e D.2.2 e) H
/-- the tables: classes, array classes, links between nest mates -/
def hv_K (D : hv_D) (U : State) : Prop := (∀ (c : Nat) (q : vw_C), vwCl[c]? = some q → u_Kn U q.1 q.2.1 q.2.2 (D.1 c) (D.2.1 c)) ∧ (∀ (k : Nat) (ty : FieldType), hv_tys[k]? = some ty → ArrOfT U (D.2.2 k) ty ∧ va_RA U (D.2.2 k) ty) ∧ (∀ w ∈ hv_nest, va_Nw w U) ∧ ∀ C ∈ hv_over, va_AO C U
theorem hv_K.va {D : hv_D} {U : State} (h : hv_K D U) : va_K (D.1, D.2.1) vwCl [] U := ⟨h.1, fun k q hk => by simp at hk⟩
theorem hv_K.one {D : hv_D} {U : State} (h : hv_K D U) {k : Nat} {ty : FieldType} (hk : hv_tys[k]? = some ty) : va_K (D.1, D.2.1) vwCl [(D.2.2 k, ty)] U := ⟨h.1, fun j q hj => by
  match j, hj with
  | 0, hj => cases hj; exact h.2.1 k ty hk
  | j + 1, hj => simp at hj⟩
theorem hv_one {D : hv_D} {h : hv_P} {H : Heap} (hh : hv_at D h H) {a : Nat} {e : hv_E} (he : h a = some e) : va_P (D.1, D.2.1) vwCl [(a, hv_e D.2.2 e)] H := fun j q hj => by
  match j, hj with
  | 0, hj => cases hj; exact hh a e he
  | j + 1, hj => simp at hj
theorem hv_at.set {D : hv_D} {h : hv_P} {H H1 : Heap} {a : Nat} {e : hv_E} (hh : hv_at D h H) (he : va_at (D.1, D.2.1) vwCl (a, hv_e D.2.2 e) H1) (oq : ∀ q : Nat, q ≠ a → H1[q]? = H[q]?) : hv_at D (hv_up h a e) H1 := by
  intro q e' hq
  by_cases n : q = a
  · subst n
    rw [hv_up_s] at hq
    cases hq
    exact he
  · rw [hv_up_n n] at hq
    exact (hh q e' hq).kept (oq q n)
theorem hv_at.lt {D : hv_D} {h : hv_P} {H : Heap} (hh : hv_at D h H) {a : Nat} {e : hv_E} (he : h a = some e) : a < H.size := (hh a e he).lt
/-- the world: what the heap holds, its size, what has changed since the start, what may change -/
def hv_W (D : hv_D) (h : hv_P) (nx : Nat) (A : Nat → Prop) (s : State) (H : Heap) (locs : List Loc) : Prop := hv_at D h H ∧ H.size = nx ∧ va_S A s.heap H locs ∧ ∀ (a : Nat) (e : hv_E), h a = some e → A a
theorem hv_W.put {D : hv_D} {h : hv_P} {nx : Nat} {A : Nat → Prop} {s : State} {H H1 : Heap} {locs : List Loc} {a k : Nat} {e0 e : hv_E} (hW : hv_W D h nx A s H locs) (h0 : h a = some e0) (he : va_at (D.1, D.2.1) vwCl (a, hv_e D.2.2 e) H1) (z : H1.size = H.size) (oq : ∀ q : Nat, q ≠ a → H1[q]? = H[q]?) : hv_W D (hv_up h a e) nx A s H1 (locs ++ [⟨a, k⟩]) := by
  obtain ⟨w1, w2, w3, w4⟩ := hW
  refine ⟨w1.set he oq, z.trans w2, w3.put z oq (w4 a e0 h0), fun q e' hq => ?_⟩
  by_cases n : q = a
  · rw [n]; exact w4 a e0 h0
  · rw [hv_up_n n] at hq; exact w4 q e' hq
theorem hv_W.new {D : hv_D} {h : hv_P} {nx : Nat} {A : Nat → Prop} {s : State} {H H1 : Heap} {locs : List Loc} {e : hv_E} (hW : hv_W D h nx A s H locs) (hA : ∀ q : Nat, s.heap.size ≤ q → A q) (he : va_at (D.1, D.2.1) vwCl (H.size, hv_e D.2.2 e) H1) (z : H1.size = H.size + 1) (oq : ∀ q : Nat, q < H.size → H1[q]? = H[q]?) : hv_W D (hv_up h nx e) (nx + 1) A s H1 locs := by
  obtain ⟨w1, w2, w3, w4⟩ := hW
  subst w2
  refine ⟨fun q e' hq => ?_, z, ⟨Nat.le_trans w3.1 (by omega), fun x h1 h2 => (oq x (Nat.lt_of_lt_of_le h1 w3.1)).trans (w3.2.1 x h1 h2), w3.2.2⟩, fun q e' hq => ?_⟩
  · by_cases n : q = H.size
    · subst n
      rw [hv_up_s] at hq
      cases hq
      exact he
    · rw [hv_up_n n] at hq
      exact (w1 q e' hq).kept (oq q (w1.lt hq))
  · by_cases n : q = H.size
    · rw [n]; exact hA _ w3.1
    · rw [hv_up_n n] at hq; exact w4 q e' hq
/-- locals: a place each; none: nothing is known of it -/
def hv_L (ls : Array Slot) (n : Nat) (lv : List (Option Value)) : Prop := ls.size = n ∧ lv.length ≤ n ∧ lv_wf ls ∧ ∀ (i : Nat) (v : Value), lv[i]? = some (some v) → ls[i]? = some (.val v)
def hv_f : Nat → List (Option Value) → List (Nat × Value)
  | _, [] => []
  | i, none :: r => hv_f (i + 1) r
  | i, some v :: r => (i, v) :: hv_f (i + 1) r
theorem hv_f_mem : ∀ (lv : List (Option Value)) (i : Nat) (q : Nat × Value), q ∈ hv_f i lv ↔ ∃ j, lv[j]? = some (some q.2) ∧ q.1 = i + j
  | [], i, q => by simp [hv_f]
  | none :: r, i, q => by
    simp only [hv_f]
    rw [hv_f_mem r (i + 1) q]
    constructor
    · rintro ⟨j, h1, h2⟩
      exact ⟨j + 1, by simpa using h1, by omega⟩
    · rintro ⟨j, h1, h2⟩
      cases j with
      | zero => simp at h1
      | succ j => exact ⟨j, by simpa using h1, by omega⟩
  | some v :: r, i, q => by
    simp only [hv_f, List.mem_cons]
    rw [hv_f_mem r (i + 1) q]
    constructor
    · rintro (rfl | ⟨j, h1, h2⟩)
      · exact ⟨0, by simp, by simp⟩
      · exact ⟨j + 1, by simpa using h1, by omega⟩
    · rintro ⟨j, h1, h2⟩
      cases j with
      | zero =>
        left
        obtain ⟨a, b⟩ := q
        simp at h1 h2
        rw [h1, h2]
      | succ j => exact Or.inr ⟨j, by simpa using h1, by omega⟩
theorem hv_L.has {ls : Array Slot} {n : Nat} {lv : List (Option Value)} (h : hv_L ls n lv) : lv_has ls n (hv_f 0 lv) := by
  refine ⟨h.1, h.2.2.1, fun q hq => ?_⟩
  obtain ⟨j, h1, h2⟩ := (hv_f_mem lv 0 q).mp hq
  rw [show q.1 = j by omega]
  exact h.2.2.2 j q.2 h1
theorem hv_L.has1 {ls : Array Slot} {n i : Nat} {v : Value} {lv : List (Option Value)} (h : hv_L ls n lv) (hi : lv[i]? = some (some v)) : lv_has ls n ((i, v) :: hv_f 0 lv) := by
  refine ⟨h.1, h.2.2.1, fun q hq => ?_⟩
  rcases List.mem_cons.mp hq with rfl | hq
  · exact h.2.2.2 i v hi
  · exact h.has.2.2 q hq
theorem hv_L.lt {ls : Array Slot} {n i : Nat} {lv : List (Option Value)} (h : hv_L ls n lv) (hi : i < lv.length) : i < n := Nat.lt_of_lt_of_le hi h.2.1
/-- no long lies there -/
def hv_ok (o : Option Value) : Bool := match o with
  | some (.long _) => false
  | some (.double _) => false
  | _ => true
def hv_pv (lv : List (Option Value)) : Nat → Bool
  | 0 => true
  | j + 1 => hv_ok (lv.getD j none)
theorem hv_pv_cat {lv : List (Option Value)} {i j : Nat} {v : Value} (h : hv_pv lv i = true) (hj : j + 1 = i) (hv : lv[j]? = some (some v)) : ¬ v.category = 2 := by
  subst hj
  simp only [hv_pv, List.getD, hv, Option.getD_some] at h
  cases v <;> simp_all [hv_ok, Value.category]
theorem hv_L.st1' {ls ls' : Array Slot} {n i : Nat} {v : Value} {lv : List (Option Value)} {x : Nat × Value} (h : hv_L ls n lv) (hi : i < lv.length) (hp : hv_pv lv i = true) (h' : lv_has ls' n ((i, v) :: (x :: hv_f 0 lv).filter (fun q => !(q.1 == i) && !(q.1 + 1 == i && q.2.category == 2)))) : hv_L ls' n (lv.set i (some v)) := by
  refine ⟨h'.1, by simpa using h.2.1, h'.2.1, fun j w hj => h'.2.2 (j, w) ?_⟩
  by_cases e : i = j
  · subst e
    rw [List.getElem?_set_self hi] at hj
    cases hj
    exact List.mem_cons_self
  · rw [List.getElem?_set_ne e] at hj
    refine List.mem_cons_of_mem _ (List.mem_filter.mpr ⟨List.mem_cons_of_mem _ ((hv_f_mem lv 0 (j, w)).mpr ⟨j, hj, by simp⟩), ?_⟩)
    have e2 : ¬ j = i := fun q => e q.symm
    by_cases e3 : j + 1 = i
    · have := hv_pv_cat hp e3 hj
      simp [e2, this]
    · simp [e2, e3]
theorem hv_L.st1 {ls ls' : Array Slot} {n i : Nat} {v : Value} {lv : List (Option Value)} (h : hv_L ls n lv) (hi : i < lv.length) (hp : hv_pv lv i = true) (h' : lv_has ls' n ((i, v) :: (hv_f 0 lv).filter (fun q => !(q.1 == i) && !(q.1 + 1 == i && q.2.category == 2)))) : hv_L ls' n (lv.set i (some v)) := by
  refine h.st1' (x := (i, v)) hi hp ?_
  rw [List.filter_cons_of_neg (by simp)]
  exact h'
theorem hv_L.st2 {ls ls' : Array Slot} {n i : Nat} {v : Value} {lv : List (Option Value)} (h : hv_L ls n lv) (hi : i + 1 < lv.length) (hp : hv_pv lv i = true) (h' : lv_has ls' n ((i, v) :: (hv_f 0 lv).filter (fun q => !(q.1 == i) && (!(q.1 == i + 1) && !(q.1 + 1 == i && q.2.category == 2))))) : hv_L ls' n ((lv.set i (some v)).set (i + 1) none) := by
  refine ⟨h'.1, by simpa using h.2.1, h'.2.1, fun j w hj => h'.2.2 (j, w) ?_⟩
  by_cases e1 : i + 1 = j
  · subst e1
    rw [List.getElem?_set_self (by simpa using hi)] at hj
    cases hj
  · rw [List.getElem?_set_ne e1] at hj
    by_cases e : i = j
    · subst e
      rw [List.getElem?_set_self (by omega)] at hj
      cases hj
      exact List.mem_cons_self
    · rw [List.getElem?_set_ne e] at hj
      refine List.mem_cons_of_mem _ (List.mem_filter.mpr ⟨(hv_f_mem lv 0 (j, w)).mpr ⟨j, hj, by simp⟩, ?_⟩)
      have e2 : ¬ j = i := fun q => e q.symm
      have e4 : ¬ j = i + 1 := fun q => e1 q.symm
      by_cases e3 : j + 1 = i
      · have := hv_pv_cat hp e3 hj
        simp [e2, e4, this]
      · simp [e2, e3, e4]
theorem hv_L.drop {ls : Array Slot} {n i : Nat} {lv : List (Option Value)} (h : hv_L ls n lv) : hv_L ls n (lv.set i none) := by
  refine ⟨h.1, by simpa using h.2.1, h.2.2.1, fun j w hj => ?_⟩
  by_cases e : i = j
  · subst e
    by_cases hi : i < lv.length
    · rw [List.getElem?_set_self hi] at hj
      cases hj
    · rw [List.getElem?_eq_none (by simpa using hi)] at hj
      cases hj
  · rw [List.getElem?_set_ne e] at hj
    exact h.2.2.2 j w hj
/-- how a method ends: it returned, or it threw an object of the class hv_exn k -/
def hv_O (r : hv_R) (o : Outcome) (t : State) : Prop := match r with
  | .inl v => o = .returned v
  | .inr k => ∃ (x : Addr) (cell : Cell), o = .threw x ∧ t.heap[x]? = some cell ∧ cell.vm.isStatics = false ∧ cell.vm ≠ .unknown ∧ t.vm.findClass (hv_exn k) = some cell.cls
def hv_Q (D : hv_D) (Q : hv_R → hv_P → Nat → Prop) (A : Nat → Prop) : Array Value → State → Outcome → State → Prop := fun _ st o t => (∃ (r : hv_R) (h : hv_P), hv_O r o t ∧ Q r h t.heap.size ∧ hv_at D h t.heap ∧ ∀ (a : Nat) (e : hv_E), h a = some e → A a) ∧ va_F A st t
def hv_Fr (s : State) (t : State) (mc ms : Nat) (A : Nat → Prop) : Prop := ∃ L : List Loc, (s.WarmedH t.vm ∧ s.sameButNew ({ t with vm := s.vm } : State) L mc ms) ∧ ∀ q ∈ L, A q.base
def hv_Z (D : hv_D) (Q : hv_R → hv_P → Nat → Prop) (below : List Frame) (args : Array Value) (s : State) (mc ms : Nat) (A : Nat → Prop) : State → Prop := fun t => ∃ o, t.status = .running ∧ Ended t below o ∧ hv_Q D Q A args s o t ∧ hv_Fr s t mc ms A
def hv_ws (M : hv_M) : List Cond := .code M.1 M.2.1 M.2.2.1 M.2.2.2 :: hv_tbl
def hv_C (D : hv_D) (M : hv_M) (X : State → (Nat → Prop) → Prop) (rm : Room) (p : Program) (R : Room) (s : State) (m : MethodId) (args : Array Value) (meth : Method) (c : Code) (A : Nat → Prop) : Prop :=
  p.tables.exec = Jvm.exec ∧ c.code = M.2.1 ∧ meth.sig.returnType = M.2.2.2 ∧ c.maxLocals = M.2.2.1 ∧ s.vm.findClass M.1.cls = some m.cls ∧ (∀ w ∈ hv_tbl, w.before args s = true) ∧ meth.locks = false ∧ meth.name = M.1.name ∧ hv_K D s ∧ (∀ q : Nat, s.heap.size ≤ q → A q) ∧ (rm.frames ≤ R.frames ∧ rm.locals ≤ R.locals ∧ rm.cells ≤ R.cells ∧ rm.slots ≤ R.slots) ∧ X s A
section HVC
variable {D : hv_D} {M : hv_M} {X : State → (Nat → Prop) → Prop} {rm : Room} {p : Program} {R : Room} {s : State} {m : MethodId} {args : Array Value} {meth : Method} {c : Code} {A : Nat → Prop}
theorem hv_C.ret (h : hv_C D M X rm p R s m args meth c A) : meth.sig.returnType = M.2.2.2 := h.2.2.1
theorem hv_C.maxL (h : hv_C D M X rm p R s m args meth c A) : c.maxLocals = M.2.2.1 := h.2.2.2.1
theorem hv_C.own (h : hv_C D M X rm p R s m args meth c A) : s.vm.findClass M.1.cls = some m.cls := h.2.2.2.2.1
theorem hv_C.word (h : hv_C D M X rm p R s m args meth c A) : ∀ w ∈ hv_tbl, w.before args s = true := h.2.2.2.2.2.1
theorem hv_C.lock (h : hv_C D M X rm p R s m args meth c A) : meth.locks = false := h.2.2.2.2.2.2.1
theorem hv_C.name (h : hv_C D M X rm p R s m args meth c A) : meth.name = M.1.name := h.2.2.2.2.2.2.2.1
theorem hv_C.K (h : hv_C D M X rm p R s m args meth c A) : hv_K D s := h.2.2.2.2.2.2.2.2.1
theorem hv_C.inA (h : hv_C D M X rm p R s m args meth c A) : ∀ q : Nat, s.heap.size ≤ q → A q := h.2.2.2.2.2.2.2.2.2.1
theorem hv_C.room (h : hv_C D M X rm p R s m args meth c A) : rm.frames ≤ R.frames ∧ rm.locals ≤ R.locals ∧ rm.cells ≤ R.cells ∧ rm.slots ≤ R.slots := h.2.2.2.2.2.2.2.2.2.2.1
theorem hv_C.ext (h : hv_C D M X rm p R s m args meth c A) : X s A := h.2.2.2.2.2.2.2.2.2.2.2
end HVC
def hv_V (l : Launch) (D : hv_D) (M : hv_M) (X : State → (Nat → Prop) → Prop) (rm : Room) (Q : hv_R → hv_P → Nat → Prop) (bc bs : Nat) (h : hv_P) (nx pc : Nat) (lv : List (Option Value)) (st : List Value) : Prop :=
  ∀ (p : Program) (e : Env) (R : Room) (s : State) (m : MethodId) (args : Array Value) (below : List Frame) (meth : Method) (c : Code) (A : Nat → Prop) (H : Heap) (locs : List Loc) (cells slots : Nat) (ls : Array Slot),
    hv_C D M X rm p R s m args meth c A → hv_W D h nx A s H locs → cells + bc ≤ rm.cells ∧ slots + bs ≤ rm.slots → hv_L ls M.2.2.1 lv →
    W p l e R s m args below meth c H locs cells slots (hv_Z D Q below args s rm.cells rm.slots A) (F0 m pc ls st)
end
section
-- RULES, an instruction each (laid by program): straight stretches, branches, locals
section HVR
variable {l : Launch} {D : hv_D} {M : hv_M} {X : State → (Nat → Prop) → Prop} {rm : Room} {Q : hv_R → hv_P → Nat → Prop} {bc bs : Nat} {h : hv_P} {nx pc : Nat} {lv : List (Option Value)} {st : List Value}
theorem V_iadd {x y : Int32} (hd : decode M.2.1 pc = .ok (.iadd, 1)) (k : hv_V l D M X rm Q bc bs h nx (pc + 1) lv (.int (x + y) :: st)) : hv_V l D M X rm Q bc bs h nx pc lv (.int y :: .int x :: st) := fun p e R s m args below meth c A H locs cells slots ls hC hW hb hl => lv_iadd hC.1 hC.2.1 hd (k p e R s m args below meth c A H locs cells slots ls hC hW hb hl)
theorem V_isub {x y : Int32} (hd : decode M.2.1 pc = .ok (.isub, 1)) (k : hv_V l D M X rm Q bc bs h nx (pc + 1) lv (.int (x - y) :: st)) : hv_V l D M X rm Q bc bs h nx pc lv (.int y :: .int x :: st) := fun p e R s m args below meth c A H locs cells slots ls hC hW hb hl => lv_isub hC.1 hC.2.1 hd (k p e R s m args below meth c A H locs cells slots ls hC hW hb hl)
theorem V_imul {x y : Int32} (hd : decode M.2.1 pc = .ok (.imul, 1)) (k : hv_V l D M X rm Q bc bs h nx (pc + 1) lv (.int (x * y) :: st)) : hv_V l D M X rm Q bc bs h nx pc lv (.int y :: .int x :: st) := fun p e R s m args below meth c A H locs cells slots ls hC hW hb hl => lv_imul hC.1 hC.2.1 hd (k p e R s m args below meth c A H locs cells slots ls hC hW hb hl)
theorem V_iand {x y : Int32} (hd : decode M.2.1 pc = .ok (.iand, 1)) (k : hv_V l D M X rm Q bc bs h nx (pc + 1) lv (.int (x &&& y) :: st)) : hv_V l D M X rm Q bc bs h nx pc lv (.int y :: .int x :: st) := fun p e R s m args below meth c A H locs cells slots ls hC hW hb hl => lv_iand hC.1 hC.2.1 hd (k p e R s m args below meth c A H locs cells slots ls hC hW hb hl)
theorem V_ior {x y : Int32} (hd : decode M.2.1 pc = .ok (.ior, 1)) (k : hv_V l D M X rm Q bc bs h nx (pc + 1) lv (.int (x ||| y) :: st)) : hv_V l D M X rm Q bc bs h nx pc lv (.int y :: .int x :: st) := fun p e R s m args below meth c A H locs cells slots ls hC hW hb hl => lv_ior hC.1 hC.2.1 hd (k p e R s m args below meth c A H locs cells slots ls hC hW hb hl)
theorem V_ixor {x y : Int32} (hd : decode M.2.1 pc = .ok (.ixor, 1)) (k : hv_V l D M X rm Q bc bs h nx (pc + 1) lv (.int (x ^^^ y) :: st)) : hv_V l D M X rm Q bc bs h nx pc lv (.int y :: .int x :: st) := fun p e R s m args below meth c A H locs cells slots ls hC hW hb hl => lv_ixor hC.1 hC.2.1 hd (k p e R s m args below meth c A H locs cells slots ls hC hW hb hl)
theorem V_ishl {x y : Int32} (hd : decode M.2.1 pc = .ok (.ishl, 1)) (k : hv_V l D M X rm Q bc bs h nx (pc + 1) lv (.int (x <<< (y &&& 31)) :: st)) : hv_V l D M X rm Q bc bs h nx pc lv (.int y :: .int x :: st) := fun p e R s m args below meth c A H locs cells slots ls hC hW hb hl => lv_ishl hC.1 hC.2.1 hd (k p e R s m args below meth c A H locs cells slots ls hC hW hb hl)
theorem V_ishr {x y : Int32} (hd : decode M.2.1 pc = .ok (.ishr, 1)) (k : hv_V l D M X rm Q bc bs h nx (pc + 1) lv (.int (x >>> (y &&& 31)) :: st)) : hv_V l D M X rm Q bc bs h nx pc lv (.int y :: .int x :: st) := fun p e R s m args below meth c A H locs cells slots ls hC hW hb hl => lv_ishr hC.1 hC.2.1 hd (k p e R s m args below meth c A H locs cells slots ls hC hW hb hl)
theorem V_ladd {x y : Int64} (hd : decode M.2.1 pc = .ok (.ladd, 1)) (k : hv_V l D M X rm Q bc bs h nx (pc + 1) lv (.long (x + y) :: st)) : hv_V l D M X rm Q bc bs h nx pc lv (.long y :: .long x :: st) := fun p e R s m args below meth c A H locs cells slots ls hC hW hb hl => lv_ladd hC.1 hC.2.1 hd (k p e R s m args below meth c A H locs cells slots ls hC hW hb hl)
theorem V_lsub {x y : Int64} (hd : decode M.2.1 pc = .ok (.lsub, 1)) (k : hv_V l D M X rm Q bc bs h nx (pc + 1) lv (.long (x - y) :: st)) : hv_V l D M X rm Q bc bs h nx pc lv (.long y :: .long x :: st) := fun p e R s m args below meth c A H locs cells slots ls hC hW hb hl => lv_lsub hC.1 hC.2.1 hd (k p e R s m args below meth c A H locs cells slots ls hC hW hb hl)
theorem V_lmul {x y : Int64} (hd : decode M.2.1 pc = .ok (.lmul, 1)) (k : hv_V l D M X rm Q bc bs h nx (pc + 1) lv (.long (x * y) :: st)) : hv_V l D M X rm Q bc bs h nx pc lv (.long y :: .long x :: st) := fun p e R s m args below meth c A H locs cells slots ls hC hW hb hl => lv_lmul hC.1 hC.2.1 hd (k p e R s m args below meth c A H locs cells slots ls hC hW hb hl)
theorem V_land {x y : Int64} (hd : decode M.2.1 pc = .ok (.land, 1)) (k : hv_V l D M X rm Q bc bs h nx (pc + 1) lv (.long (x &&& y) :: st)) : hv_V l D M X rm Q bc bs h nx pc lv (.long y :: .long x :: st) := fun p e R s m args below meth c A H locs cells slots ls hC hW hb hl => lv_land hC.1 hC.2.1 hd (k p e R s m args below meth c A H locs cells slots ls hC hW hb hl)
theorem V_lor {x y : Int64} (hd : decode M.2.1 pc = .ok (.lor, 1)) (k : hv_V l D M X rm Q bc bs h nx (pc + 1) lv (.long (x ||| y) :: st)) : hv_V l D M X rm Q bc bs h nx pc lv (.long y :: .long x :: st) := fun p e R s m args below meth c A H locs cells slots ls hC hW hb hl => lv_lor hC.1 hC.2.1 hd (k p e R s m args below meth c A H locs cells slots ls hC hW hb hl)
theorem V_lxor {x y : Int64} (hd : decode M.2.1 pc = .ok (.lxor, 1)) (k : hv_V l D M X rm Q bc bs h nx (pc + 1) lv (.long (x ^^^ y) :: st)) : hv_V l D M X rm Q bc bs h nx pc lv (.long y :: .long x :: st) := fun p e R s m args below meth c A H locs cells slots ls hC hW hb hl => lv_lxor hC.1 hC.2.1 hd (k p e R s m args below meth c A H locs cells slots ls hC hW hb hl)
theorem V_iushr {x y : Int32} (hd : decode M.2.1 pc = .ok (.iushr, 1)) (k : hv_V l D M X rm Q bc bs h nx (pc + 1) lv (.int ((x.toUInt32 >>> (y.toUInt32 &&& Int32.toUInt32 31)).toInt32) :: st)) : hv_V l D M X rm Q bc bs h nx pc lv (.int y :: .int x :: st) := fun p e R s m args below meth c A H locs cells slots ls hC hW hb hl => lv_iushr hC.1 hC.2.1 hd rfl (k p e R s m args below meth c A H locs cells slots ls hC hW hb hl)
theorem V_ineg {x : Int32} (hd : decode M.2.1 pc = .ok (.ineg, 1)) (k : hv_V l D M X rm Q bc bs h nx (pc + 1) lv (.int (-x) :: st)) : hv_V l D M X rm Q bc bs h nx pc lv (.int x :: st) := fun p e R s m args below meth c A H locs cells slots ls hC hW hb hl => lv_ineg hC.1 hC.2.1 hd (k p e R s m args below meth c A H locs cells slots ls hC hW hb hl)
theorem V_lneg {x : Int64} (hd : decode M.2.1 pc = .ok (.lneg, 1)) (k : hv_V l D M X rm Q bc bs h nx (pc + 1) lv (.long (-x) :: st)) : hv_V l D M X rm Q bc bs h nx pc lv (.long x :: st) := fun p e R s m args below meth c A H locs cells slots ls hC hW hb hl => lv_lneg hC.1 hC.2.1 hd (k p e R s m args below meth c A H locs cells slots ls hC hW hb hl)
theorem V_i2l {x : Int32} (hd : decode M.2.1 pc = .ok (.i2l, 1)) (k : hv_V l D M X rm Q bc bs h nx (pc + 1) lv (.long x.toInt64 :: st)) : hv_V l D M X rm Q bc bs h nx pc lv (.int x :: st) := fun p e R s m args below meth c A H locs cells slots ls hC hW hb hl => lv_i2l hC.1 hC.2.1 hd rfl (k p e R s m args below meth c A H locs cells slots ls hC hW hb hl)
theorem V_l2i {x : Int64} (hd : decode M.2.1 pc = .ok (.l2i, 1)) (k : hv_V l D M X rm Q bc bs h nx (pc + 1) lv (.int x.toInt32 :: st)) : hv_V l D M X rm Q bc bs h nx pc lv (.long x :: st) := fun p e R s m args below meth c A H locs cells slots ls hC hW hb hl => lv_l2i hC.1 hC.2.1 hd rfl (k p e R s m args below meth c A H locs cells slots ls hC hW hb hl)
theorem V_lcmp {x y : Int64} (hd : decode M.2.1 pc = .ok (.lcmp, 1)) (k : hv_V l D M X rm Q bc bs h nx (pc + 1) lv (.int (lg_cmp x y) :: st)) : hv_V l D M X rm Q bc bs h nx pc lv (.long y :: .long x :: st) := fun p e R s m args below meth c A H locs cells slots ls hC hW hb hl => W.lcmp hC.1 hC.2.1 hd (k p e R s m args below meth c A H locs cells slots ls hC hW hb hl)
theorem V_iconst {n : Int} (v : Int32) (hd : decode M.2.1 pc = .ok (.iconst n, 1)) (hv : Int32.ofInt n = v) (k : hv_V l D M X rm Q bc bs h nx (pc + 1) lv (.int v :: st)) : hv_V l D M X rm Q bc bs h nx pc lv st := fun p e R s m args below meth c A H locs cells slots ls hC hW hb hl => lv_iconst hC.1 hC.2.1 hd hv (k p e R s m args below meth c A H locs cells slots ls hC hW hb hl)
theorem V_bipush {n : Int} (v : Int32) (hd : decode M.2.1 pc = .ok (.bipush n, 2)) (hv : (Int8.ofInt n).toInt32 = v) (k : hv_V l D M X rm Q bc bs h nx (pc + 2) lv (.int v :: st)) : hv_V l D M X rm Q bc bs h nx pc lv st := fun p e R s m args below meth c A H locs cells slots ls hC hW hb hl => lv_bipush hC.1 hC.2.1 hd hv (k p e R s m args below meth c A H locs cells slots ls hC hW hb hl)
theorem V_sipush {n : Int} (v : Int32) (hd : decode M.2.1 pc = .ok (.sipush n, 3)) (hv : (Int16.ofInt n).toInt32 = v) (k : hv_V l D M X rm Q bc bs h nx (pc + 3) lv (.int v :: st)) : hv_V l D M X rm Q bc bs h nx pc lv st := fun p e R s m args below meth c A H locs cells slots ls hC hW hb hl => lv_sipush hC.1 hC.2.1 hd hv (k p e R s m args below meth c A H locs cells slots ls hC hW hb hl)
theorem V_lconst {n : Fin 2} (v : Int64) (hd : decode M.2.1 pc = .ok (.lconst n, 1)) (hv : Int64.ofNat (n : Nat) = v) (k : hv_V l D M X rm Q bc bs h nx (pc + 1) lv (.long v :: st)) : hv_V l D M X rm Q bc bs h nx pc lv st := fun p e R s m args below meth c A H locs cells slots ls hC hW hb hl => lv_lconst hC.1 hC.2.1 hd hv (k p e R s m args below meth c A H locs cells slots ls hC hW hb hl)
theorem V_ldc {n : Nat} {v : Int32} (hd : decode M.2.1 pc = .ok (.ldc n, 2)) (hv : Cond.constant M.1.cls n v ∈ hv_tbl) (k : hv_V l D M X rm Q bc bs h nx (pc + 2) lv (.int v :: st)) : hv_V l D M X rm Q bc bs h nx pc lv st := fun p e R s m args below meth c A H locs cells slots ls hC hW hb hl => lv_ldc hC.1 hC.2.1 hC.own (hC.word _ hv) hd (k p e R s m args below meth c A H locs cells slots ls hC hW hb hl)
theorem V_iload_n {i : Fin 4} {x : Int32} (hd : decode M.2.1 pc = .ok (.iload_n i, 1)) (hx : lv[(i : Nat)]? = some (some (.int x))) (k : hv_V l D M X rm Q bc bs h nx (pc + 1) lv (.int x :: st)) : hv_V l D M X rm Q bc bs h nx pc lv st := fun p e R s m args below meth c A H locs cells slots ls hC hW hb hl => lv_iload_n hC.1 hC.2.1 hd rfl (hl.2.2.2 _ _ hx) (k p e R s m args below meth c A H locs cells slots ls hC hW hb hl)
theorem V_iload {i : Nat} {x : Int32} (hd : decode M.2.1 pc = .ok (.iload i, 2)) (hx : lv[i]? = some (some (.int x))) (k : hv_V l D M X rm Q bc bs h nx (pc + 2) lv (.int x :: st)) : hv_V l D M X rm Q bc bs h nx pc lv st := fun p e R s m args below meth c A H locs cells slots ls hC hW hb hl => lv_iload hC.1 hC.2.1 hd (hl.2.2.2 _ _ hx) (k p e R s m args below meth c A H locs cells slots ls hC hW hb hl)
theorem V_lload_n {i : Fin 4} {x : Int64} (hd : decode M.2.1 pc = .ok (.lload_n i, 1)) (hx : lv[(i : Nat)]? = some (some (.long x))) (k : hv_V l D M X rm Q bc bs h nx (pc + 1) lv (.long x :: st)) : hv_V l D M X rm Q bc bs h nx pc lv st := fun p e R s m args below meth c A H locs cells slots ls hC hW hb hl => lv_lload_n hC.1 hC.2.1 hd rfl (hl.2.2.2 _ _ hx) (k p e R s m args below meth c A H locs cells slots ls hC hW hb hl)
theorem V_lload {i : Nat} {x : Int64} (hd : decode M.2.1 pc = .ok (.lload i, 2)) (hx : lv[i]? = some (some (.long x))) (k : hv_V l D M X rm Q bc bs h nx (pc + 2) lv (.long x :: st)) : hv_V l D M X rm Q bc bs h nx pc lv st := fun p e R s m args below meth c A H locs cells slots ls hC hW hb hl => lv_lload hC.1 hC.2.1 hd (hl.2.2.2 _ _ hx) (k p e R s m args below meth c A H locs cells slots ls hC hW hb hl)
theorem V_aload_n {i : Fin 4} {x : Nat} (hd : decode M.2.1 pc = .ok (.aload_n i, 1)) (hx : lv[(i : Nat)]? = some (some (.ref x))) (k : hv_V l D M X rm Q bc bs h nx (pc + 1) lv (.ref x :: st)) : hv_V l D M X rm Q bc bs h nx pc lv st := fun p e R s m args below meth c A H locs cells slots ls hC hW hb hl => lv_aload_n hC.1 hC.2.1 hd rfl (hl.2.2.2 _ _ hx) (k p e R s m args below meth c A H locs cells slots ls hC hW hb hl)
theorem V_aload {i : Nat} {x : Nat} (hd : decode M.2.1 pc = .ok (.aload i, 2)) (hx : lv[i]? = some (some (.ref x))) (k : hv_V l D M X rm Q bc bs h nx (pc + 2) lv (.ref x :: st)) : hv_V l D M X rm Q bc bs h nx pc lv st := fun p e R s m args below meth c A H locs cells slots ls hC hW hb hl => lv_aload hC.1 hC.2.1 hd (hl.2.2.2 _ _ hx) (k p e R s m args below meth c A H locs cells slots ls hC hW hb hl)
theorem V_dup {va : Value} (hd : decode M.2.1 pc = .ok (.dup, 1)) (h1 : va.category = 1) (k : hv_V l D M X rm Q bc bs h nx (pc + 1) lv (va :: va :: st)) : hv_V l D M X rm Q bc bs h nx pc lv (va :: st) := fun p e R s m args below meth c A H locs cells slots ls hC hW hb hl => lv_dup hC.1 hC.2.1 hd h1 (k p e R s m args below meth c A H locs cells slots ls hC hW hb hl)
theorem V_pop {va : Value} (hd : decode M.2.1 pc = .ok (.pop, 1)) (h1 : va.category = 1) (k : hv_V l D M X rm Q bc bs h nx (pc + 1) lv st) : hv_V l D M X rm Q bc bs h nx pc lv (va :: st) := fun p e R s m args below meth c A H locs cells slots ls hC hW hb hl => lv_pop hC.1 hC.2.1 hd h1 (k p e R s m args below meth c A H locs cells slots ls hC hW hb hl)
theorem V_dup_x1 {va vb : Value} (hd : decode M.2.1 pc = .ok (.dup_x1, 1)) (h1 : va.category = 1) (h2 : vb.category = 1) (k : hv_V l D M X rm Q bc bs h nx (pc + 1) lv (va :: vb :: va :: st)) : hv_V l D M X rm Q bc bs h nx pc lv (va :: vb :: st) := fun p e R s m args below meth c A H locs cells slots ls hC hW hb hl => lv_dup_x1 hC.1 hC.2.1 hd h1 h2 (k p e R s m args below meth c A H locs cells slots ls hC hW hb hl)
theorem V_dup2 {va vb : Value} (hd : decode M.2.1 pc = .ok (.dup2, 1)) (h1 : va.category = 1) (h2 : vb.category = 1) (k : hv_V l D M X rm Q bc bs h nx (pc + 1) lv (va :: vb :: va :: vb :: st)) : hv_V l D M X rm Q bc bs h nx pc lv (va :: vb :: st) := fun p e R s m args below meth c A H locs cells slots ls hC hW hb hl => lv_dup2_11 hC.1 hC.2.1 hd h1 h2 (k p e R s m args below meth c A H locs cells slots ls hC hW hb hl)
theorem V_dup_x2 {va vb vd : Value} (hd : decode M.2.1 pc = .ok (.dup_x2, 1)) (h1 : va.category = 1) (h2 : vb.category = 1) (h3 : vd.category = 1) (k : hv_V l D M X rm Q bc bs h nx (pc + 1) lv (va :: vb :: vd :: va :: st)) : hv_V l D M X rm Q bc bs h nx pc lv (va :: vb :: vd :: st) := fun p e R s m args below meth c A H locs cells slots ls hC hW hb hl => lv_dup_x2 hC.1 hC.2.1 hd h1 h2 h3 (k p e R s m args below meth c A H locs cells slots ls hC hW hb hl)
theorem V_dup2L {va : Value} (hd : decode M.2.1 pc = .ok (.dup2, 1)) (h1 : va.category = 2) (k : hv_V l D M X rm Q bc bs h nx (pc + 1) lv (va :: va :: st)) : hv_V l D M X rm Q bc bs h nx pc lv (va :: st) := fun p e R s m args below meth c A H locs cells slots ls hC hW hb hl => lv_dup2_2 hC.1 hC.2.1 hd h1 (k p e R s m args below meth c A H locs cells slots ls hC hW hb hl)
theorem V_pop2L {va : Value} (hd : decode M.2.1 pc = .ok (.pop2, 1)) (h1 : va.category = 2) (k : hv_V l D M X rm Q bc bs h nx (pc + 1) lv st) : hv_V l D M X rm Q bc bs h nx pc lv (va :: st) := fun p e R s m args below meth c A H locs cells slots ls hC hW hb hl => lv_pop2_2 hC.1 hC.2.1 hd h1 (k p e R s m args below meth c A H locs cells slots ls hC hW hb hl)
theorem V_goto {off : Int} (tgt : Nat) (hd : decode M.2.1 pc = .ok (.goto off, 3)) (ht : (pc : Int) + off = (tgt : Int)) (k : hv_V l D M X rm Q bc bs h nx tgt lv st) : hv_V l D M X rm Q bc bs h nx pc lv st := fun p e R s m args below meth c A H locs cells slots ls hC hW hb hl => lv_goto hC.1 hC.2.1 hd ht (k p e R s m args below meth c A H locs cells slots ls hC hW hb hl)
theorem V_if_eq {x : Int32} {off : Int} (tgt : Nat) (hd : decode M.2.1 pc = .ok (.ifCond .eq off, 3)) (ht : (pc : Int) + off = (tgt : Int)) (kt : x = 0 → hv_V l D M X rm Q bc bs h nx tgt lv st) (kf : ¬ x = 0 → hv_V l D M X rm Q bc bs h nx (pc + 3) lv st) : hv_V l D M X rm Q bc bs h nx pc lv (.int x :: st) := fun p e R s m args below meth c A H locs cells slots ls hC hW hb hl => lv_if_eq hC.1 hC.2.1 hd ht (fun q => kt q p e R s m args below meth c A H locs cells slots ls hC hW hb hl) (fun q => kf q p e R s m args below meth c A H locs cells slots ls hC hW hb hl)
theorem V_icmp_eq {x y : Int32} {off : Int} (tgt : Nat) (hd : decode M.2.1 pc = .ok (.if_icmp .eq off, 3)) (ht : (pc : Int) + off = (tgt : Int)) (kt : x = y → hv_V l D M X rm Q bc bs h nx tgt lv st) (kf : ¬ x = y → hv_V l D M X rm Q bc bs h nx (pc + 3) lv st) : hv_V l D M X rm Q bc bs h nx pc lv (.int y :: .int x :: st) := fun p e R s m args below meth c A H locs cells slots ls hC hW hb hl => lv_icmp_eq hC.1 hC.2.1 hd ht (fun q => kt q p e R s m args below meth c A H locs cells slots ls hC hW hb hl) (fun q => kf q p e R s m args below meth c A H locs cells slots ls hC hW hb hl)
theorem V_if_ne {x : Int32} {off : Int} (tgt : Nat) (hd : decode M.2.1 pc = .ok (.ifCond .ne off, 3)) (ht : (pc : Int) + off = (tgt : Int)) (kt : ¬ x = 0 → hv_V l D M X rm Q bc bs h nx tgt lv st) (kf : x = 0 → hv_V l D M X rm Q bc bs h nx (pc + 3) lv st) : hv_V l D M X rm Q bc bs h nx pc lv (.int x :: st) := fun p e R s m args below meth c A H locs cells slots ls hC hW hb hl => lv_if_ne hC.1 hC.2.1 hd ht (fun q => kt q p e R s m args below meth c A H locs cells slots ls hC hW hb hl) (fun q => kf q p e R s m args below meth c A H locs cells slots ls hC hW hb hl)
theorem V_icmp_ne {x y : Int32} {off : Int} (tgt : Nat) (hd : decode M.2.1 pc = .ok (.if_icmp .ne off, 3)) (ht : (pc : Int) + off = (tgt : Int)) (kt : ¬ x = y → hv_V l D M X rm Q bc bs h nx tgt lv st) (kf : x = y → hv_V l D M X rm Q bc bs h nx (pc + 3) lv st) : hv_V l D M X rm Q bc bs h nx pc lv (.int y :: .int x :: st) := fun p e R s m args below meth c A H locs cells slots ls hC hW hb hl => lv_icmp_ne hC.1 hC.2.1 hd ht (fun q => kt q p e R s m args below meth c A H locs cells slots ls hC hW hb hl) (fun q => kf q p e R s m args below meth c A H locs cells slots ls hC hW hb hl)
theorem V_if_lt {x : Int32} {off : Int} (tgt : Nat) (hd : decode M.2.1 pc = .ok (.ifCond .lt off, 3)) (ht : (pc : Int) + off = (tgt : Int)) (kt : x < 0 → hv_V l D M X rm Q bc bs h nx tgt lv st) (kf : ¬ x < 0 → hv_V l D M X rm Q bc bs h nx (pc + 3) lv st) : hv_V l D M X rm Q bc bs h nx pc lv (.int x :: st) := fun p e R s m args below meth c A H locs cells slots ls hC hW hb hl => lv_if_lt hC.1 hC.2.1 hd ht (fun q => kt q p e R s m args below meth c A H locs cells slots ls hC hW hb hl) (fun q => kf q p e R s m args below meth c A H locs cells slots ls hC hW hb hl)
theorem V_icmp_lt {x y : Int32} {off : Int} (tgt : Nat) (hd : decode M.2.1 pc = .ok (.if_icmp .lt off, 3)) (ht : (pc : Int) + off = (tgt : Int)) (kt : x < y → hv_V l D M X rm Q bc bs h nx tgt lv st) (kf : ¬ x < y → hv_V l D M X rm Q bc bs h nx (pc + 3) lv st) : hv_V l D M X rm Q bc bs h nx pc lv (.int y :: .int x :: st) := fun p e R s m args below meth c A H locs cells slots ls hC hW hb hl => lv_icmp_lt hC.1 hC.2.1 hd ht (fun q => kt q p e R s m args below meth c A H locs cells slots ls hC hW hb hl) (fun q => kf q p e R s m args below meth c A H locs cells slots ls hC hW hb hl)
theorem V_if_ge {x : Int32} {off : Int} (tgt : Nat) (hd : decode M.2.1 pc = .ok (.ifCond .ge off, 3)) (ht : (pc : Int) + off = (tgt : Int)) (kt : 0 ≤ x → hv_V l D M X rm Q bc bs h nx tgt lv st) (kf : ¬ 0 ≤ x → hv_V l D M X rm Q bc bs h nx (pc + 3) lv st) : hv_V l D M X rm Q bc bs h nx pc lv (.int x :: st) := fun p e R s m args below meth c A H locs cells slots ls hC hW hb hl => lv_if_ge hC.1 hC.2.1 hd ht (fun q => kt q p e R s m args below meth c A H locs cells slots ls hC hW hb hl) (fun q => kf q p e R s m args below meth c A H locs cells slots ls hC hW hb hl)
theorem V_icmp_ge {x y : Int32} {off : Int} (tgt : Nat) (hd : decode M.2.1 pc = .ok (.if_icmp .ge off, 3)) (ht : (pc : Int) + off = (tgt : Int)) (kt : y ≤ x → hv_V l D M X rm Q bc bs h nx tgt lv st) (kf : ¬ y ≤ x → hv_V l D M X rm Q bc bs h nx (pc + 3) lv st) : hv_V l D M X rm Q bc bs h nx pc lv (.int y :: .int x :: st) := fun p e R s m args below meth c A H locs cells slots ls hC hW hb hl => lv_icmp_ge hC.1 hC.2.1 hd ht (fun q => kt q p e R s m args below meth c A H locs cells slots ls hC hW hb hl) (fun q => kf q p e R s m args below meth c A H locs cells slots ls hC hW hb hl)
theorem V_if_gt {x : Int32} {off : Int} (tgt : Nat) (hd : decode M.2.1 pc = .ok (.ifCond .gt off, 3)) (ht : (pc : Int) + off = (tgt : Int)) (kt : 0 < x → hv_V l D M X rm Q bc bs h nx tgt lv st) (kf : ¬ 0 < x → hv_V l D M X rm Q bc bs h nx (pc + 3) lv st) : hv_V l D M X rm Q bc bs h nx pc lv (.int x :: st) := fun p e R s m args below meth c A H locs cells slots ls hC hW hb hl => lv_if_gt hC.1 hC.2.1 hd ht (fun q => kt q p e R s m args below meth c A H locs cells slots ls hC hW hb hl) (fun q => kf q p e R s m args below meth c A H locs cells slots ls hC hW hb hl)
theorem V_icmp_gt {x y : Int32} {off : Int} (tgt : Nat) (hd : decode M.2.1 pc = .ok (.if_icmp .gt off, 3)) (ht : (pc : Int) + off = (tgt : Int)) (kt : y < x → hv_V l D M X rm Q bc bs h nx tgt lv st) (kf : ¬ y < x → hv_V l D M X rm Q bc bs h nx (pc + 3) lv st) : hv_V l D M X rm Q bc bs h nx pc lv (.int y :: .int x :: st) := fun p e R s m args below meth c A H locs cells slots ls hC hW hb hl => lv_icmp_gt hC.1 hC.2.1 hd ht (fun q => kt q p e R s m args below meth c A H locs cells slots ls hC hW hb hl) (fun q => kf q p e R s m args below meth c A H locs cells slots ls hC hW hb hl)
theorem V_if_le {x : Int32} {off : Int} (tgt : Nat) (hd : decode M.2.1 pc = .ok (.ifCond .le off, 3)) (ht : (pc : Int) + off = (tgt : Int)) (kt : x ≤ 0 → hv_V l D M X rm Q bc bs h nx tgt lv st) (kf : ¬ x ≤ 0 → hv_V l D M X rm Q bc bs h nx (pc + 3) lv st) : hv_V l D M X rm Q bc bs h nx pc lv (.int x :: st) := fun p e R s m args below meth c A H locs cells slots ls hC hW hb hl => lv_if_le hC.1 hC.2.1 hd ht (fun q => kt q p e R s m args below meth c A H locs cells slots ls hC hW hb hl) (fun q => kf q p e R s m args below meth c A H locs cells slots ls hC hW hb hl)
theorem V_icmp_le {x y : Int32} {off : Int} (tgt : Nat) (hd : decode M.2.1 pc = .ok (.if_icmp .le off, 3)) (ht : (pc : Int) + off = (tgt : Int)) (kt : x ≤ y → hv_V l D M X rm Q bc bs h nx tgt lv st) (kf : ¬ x ≤ y → hv_V l D M X rm Q bc bs h nx (pc + 3) lv st) : hv_V l D M X rm Q bc bs h nx pc lv (.int y :: .int x :: st) := fun p e R s m args below meth c A H locs cells slots ls hC hW hb hl => lv_icmp_le hC.1 hC.2.1 hd ht (fun q => kt q p e R s m args below meth c A H locs cells slots ls hC hW hb hl) (fun q => kf q p e R s m args below meth c A H locs cells slots ls hC hW hb hl)
theorem V_istore_0 { o : Option Value} {r : List (Option Value)} {x : Int32} (hd : decode M.2.1 pc = .ok (.istore_n 0, 1)) (k : hv_V l D M X rm Q bc bs h nx (pc + 1) (some (.int x) :: r) st) : hv_V l D M X rm Q bc bs h nx pc (o :: r) (.int x :: st) := fun p e R s m args below meth c A H locs cells slots ls hC hW hb hl => lv_istore_n hC.1 hC.2.1 hd rfl hl.has (hl.lt (i := 0) (by simp)) rfl (fun ls' h' => k p e R s m args below meth c A H locs cells slots ls' hC hW hb (hl.st1 (i := 0) (by simp) rfl h'))
theorem V_astore_0 { o : Option Value} {r : List (Option Value)} {x : Nat} (hd : decode M.2.1 pc = .ok (.astore_n 0, 1)) (k : hv_V l D M X rm Q bc bs h nx (pc + 1) (some (.ref x) :: r) st) : hv_V l D M X rm Q bc bs h nx pc (o :: r) (.ref x :: st) := fun p e R s m args below meth c A H locs cells slots ls hC hW hb hl => lv_astore_n hC.1 hC.2.1 hd rfl hl.has (hl.lt (i := 0) (by simp)) rfl (fun ls' h' => k p e R s m args below meth c A H locs cells slots ls' hC hW hb (hl.st1 (i := 0) (by simp) rfl h'))
theorem V_lstore_0 { o o2 : Option Value} {r : List (Option Value)} {x : Int64} (hd : decode M.2.1 pc = .ok (.lstore_n 0, 1)) (k : hv_V l D M X rm Q bc bs h nx (pc + 1) (some (.long x) :: none :: r) st) : hv_V l D M X rm Q bc bs h nx pc (o :: o2 :: r) (.long x :: st) := fun p e R s m args below meth c A H locs cells slots ls hC hW hb hl => lv_lstore_n hC.1 hC.2.1 hd rfl hl.has (hl.lt (i := 0 + 1) (by simp)) rfl (fun ls' h' => k p e R s m args below meth c A H locs cells slots ls' hC hW hb (hl.st2 (i := 0) (by simp) rfl h'))
theorem V_iinc_0 {r : List (Option Value)} {x : Int32} {n : Int} (v : Int32) (hd : decode M.2.1 pc = .ok (.iinc 0 n, 3)) (hv : Int32.ofInt n = v) (k : hv_V l D M X rm Q bc bs h nx (pc + 3) (some (.int (x + v)) :: r) st) : hv_V l D M X rm Q bc bs h nx pc (some (.int x) :: r) st := fun p e R s m args below meth c A H locs cells slots ls hC hW hb hl => lv_iinc (k := 0) hC.1 hC.2.1 hd (hl.has1 (i := 0) (v := .int x) rfl) rfl (by rw [hv]) (hl.lt (i := 0) (by simp)) rfl (fun ls' h' => k p e R s m args below meth c A H locs cells slots ls' hC hW hb (hl.st1' (i := 0) (by simp) rfl h'))
theorem V_drop_0 { o : Option Value} {r : List (Option Value)}  (k : hv_V l D M X rm Q bc bs h nx pc (none :: r) st) : hv_V l D M X rm Q bc bs h nx pc (o :: r) st := fun p e R s m args below meth c A H locs cells slots ls hC hW hb hl => k p e R s m args below meth c A H locs cells slots ls hC hW hb (hl.drop (i := 0))
theorem V_istore_1 {a0 o : Option Value} {r : List (Option Value)} {x : Int32} (hd : decode M.2.1 pc = .ok (.istore_n 1, 1)) (hp : hv_ok a0 = true) (k : hv_V l D M X rm Q bc bs h nx (pc + 1) (a0 :: some (.int x) :: r) st) : hv_V l D M X rm Q bc bs h nx pc (a0 :: o :: r) (.int x :: st) := fun p e R s m args below meth c A H locs cells slots ls hC hW hb hl => lv_istore_n hC.1 hC.2.1 hd rfl hl.has (hl.lt (i := 1) (by simp)) rfl (fun ls' h' => k p e R s m args below meth c A H locs cells slots ls' hC hW hb (hl.st1 (i := 1) (by simp) hp h'))
theorem V_astore_1 {a0 o : Option Value} {r : List (Option Value)} {x : Nat} (hd : decode M.2.1 pc = .ok (.astore_n 1, 1)) (hp : hv_ok a0 = true) (k : hv_V l D M X rm Q bc bs h nx (pc + 1) (a0 :: some (.ref x) :: r) st) : hv_V l D M X rm Q bc bs h nx pc (a0 :: o :: r) (.ref x :: st) := fun p e R s m args below meth c A H locs cells slots ls hC hW hb hl => lv_astore_n hC.1 hC.2.1 hd rfl hl.has (hl.lt (i := 1) (by simp)) rfl (fun ls' h' => k p e R s m args below meth c A H locs cells slots ls' hC hW hb (hl.st1 (i := 1) (by simp) hp h'))
theorem V_lstore_1 {a0 o o2 : Option Value} {r : List (Option Value)} {x : Int64} (hd : decode M.2.1 pc = .ok (.lstore_n 1, 1)) (hp : hv_ok a0 = true) (k : hv_V l D M X rm Q bc bs h nx (pc + 1) (a0 :: some (.long x) :: none :: r) st) : hv_V l D M X rm Q bc bs h nx pc (a0 :: o :: o2 :: r) (.long x :: st) := fun p e R s m args below meth c A H locs cells slots ls hC hW hb hl => lv_lstore_n hC.1 hC.2.1 hd rfl hl.has (hl.lt (i := 1 + 1) (by simp)) rfl (fun ls' h' => k p e R s m args below meth c A H locs cells slots ls' hC hW hb (hl.st2 (i := 1) (by simp) hp h'))
theorem V_iinc_1 {a0 : Option Value} {r : List (Option Value)} {x : Int32} {n : Int} (v : Int32) (hd : decode M.2.1 pc = .ok (.iinc 1 n, 3)) (hv : Int32.ofInt n = v) (hp : hv_ok a0 = true) (k : hv_V l D M X rm Q bc bs h nx (pc + 3) (a0 :: some (.int (x + v)) :: r) st) : hv_V l D M X rm Q bc bs h nx pc (a0 :: some (.int x) :: r) st := fun p e R s m args below meth c A H locs cells slots ls hC hW hb hl => lv_iinc (k := 0) hC.1 hC.2.1 hd (hl.has1 (i := 1) (v := .int x) rfl) rfl (by rw [hv]) (hl.lt (i := 1) (by simp)) rfl (fun ls' h' => k p e R s m args below meth c A H locs cells slots ls' hC hW hb (hl.st1' (i := 1) (by simp) hp h'))
theorem V_drop_1 {a0 o : Option Value} {r : List (Option Value)}  (k : hv_V l D M X rm Q bc bs h nx pc (a0 :: none :: r) st) : hv_V l D M X rm Q bc bs h nx pc (a0 :: o :: r) st := fun p e R s m args below meth c A H locs cells slots ls hC hW hb hl => k p e R s m args below meth c A H locs cells slots ls hC hW hb (hl.drop (i := 1))
theorem V_istore_2 {a0 a1 o : Option Value} {r : List (Option Value)} {x : Int32} (hd : decode M.2.1 pc = .ok (.istore_n 2, 1)) (hp : hv_ok a1 = true) (k : hv_V l D M X rm Q bc bs h nx (pc + 1) (a0 :: a1 :: some (.int x) :: r) st) : hv_V l D M X rm Q bc bs h nx pc (a0 :: a1 :: o :: r) (.int x :: st) := fun p e R s m args below meth c A H locs cells slots ls hC hW hb hl => lv_istore_n hC.1 hC.2.1 hd rfl hl.has (hl.lt (i := 2) (by simp)) rfl (fun ls' h' => k p e R s m args below meth c A H locs cells slots ls' hC hW hb (hl.st1 (i := 2) (by simp) hp h'))
theorem V_astore_2 {a0 a1 o : Option Value} {r : List (Option Value)} {x : Nat} (hd : decode M.2.1 pc = .ok (.astore_n 2, 1)) (hp : hv_ok a1 = true) (k : hv_V l D M X rm Q bc bs h nx (pc + 1) (a0 :: a1 :: some (.ref x) :: r) st) : hv_V l D M X rm Q bc bs h nx pc (a0 :: a1 :: o :: r) (.ref x :: st) := fun p e R s m args below meth c A H locs cells slots ls hC hW hb hl => lv_astore_n hC.1 hC.2.1 hd rfl hl.has (hl.lt (i := 2) (by simp)) rfl (fun ls' h' => k p e R s m args below meth c A H locs cells slots ls' hC hW hb (hl.st1 (i := 2) (by simp) hp h'))
theorem V_lstore_2 {a0 a1 o o2 : Option Value} {r : List (Option Value)} {x : Int64} (hd : decode M.2.1 pc = .ok (.lstore_n 2, 1)) (hp : hv_ok a1 = true) (k : hv_V l D M X rm Q bc bs h nx (pc + 1) (a0 :: a1 :: some (.long x) :: none :: r) st) : hv_V l D M X rm Q bc bs h nx pc (a0 :: a1 :: o :: o2 :: r) (.long x :: st) := fun p e R s m args below meth c A H locs cells slots ls hC hW hb hl => lv_lstore_n hC.1 hC.2.1 hd rfl hl.has (hl.lt (i := 2 + 1) (by simp)) rfl (fun ls' h' => k p e R s m args below meth c A H locs cells slots ls' hC hW hb (hl.st2 (i := 2) (by simp) hp h'))
theorem V_iinc_2 {a0 a1 : Option Value} {r : List (Option Value)} {x : Int32} {n : Int} (v : Int32) (hd : decode M.2.1 pc = .ok (.iinc 2 n, 3)) (hv : Int32.ofInt n = v) (hp : hv_ok a1 = true) (k : hv_V l D M X rm Q bc bs h nx (pc + 3) (a0 :: a1 :: some (.int (x + v)) :: r) st) : hv_V l D M X rm Q bc bs h nx pc (a0 :: a1 :: some (.int x) :: r) st := fun p e R s m args below meth c A H locs cells slots ls hC hW hb hl => lv_iinc (k := 0) hC.1 hC.2.1 hd (hl.has1 (i := 2) (v := .int x) rfl) rfl (by rw [hv]) (hl.lt (i := 2) (by simp)) rfl (fun ls' h' => k p e R s m args below meth c A H locs cells slots ls' hC hW hb (hl.st1' (i := 2) (by simp) hp h'))
theorem V_drop_2 {a0 a1 o : Option Value} {r : List (Option Value)}  (k : hv_V l D M X rm Q bc bs h nx pc (a0 :: a1 :: none :: r) st) : hv_V l D M X rm Q bc bs h nx pc (a0 :: a1 :: o :: r) st := fun p e R s m args below meth c A H locs cells slots ls hC hW hb hl => k p e R s m args below meth c A H locs cells slots ls hC hW hb (hl.drop (i := 2))
theorem V_istore_3 {a0 a1 a2 o : Option Value} {r : List (Option Value)} {x : Int32} (hd : decode M.2.1 pc = .ok (.istore_n 3, 1)) (hp : hv_ok a2 = true) (k : hv_V l D M X rm Q bc bs h nx (pc + 1) (a0 :: a1 :: a2 :: some (.int x) :: r) st) : hv_V l D M X rm Q bc bs h nx pc (a0 :: a1 :: a2 :: o :: r) (.int x :: st) := fun p e R s m args below meth c A H locs cells slots ls hC hW hb hl => lv_istore_n hC.1 hC.2.1 hd rfl hl.has (hl.lt (i := 3) (by simp)) rfl (fun ls' h' => k p e R s m args below meth c A H locs cells slots ls' hC hW hb (hl.st1 (i := 3) (by simp) hp h'))
theorem V_astore_3 {a0 a1 a2 o : Option Value} {r : List (Option Value)} {x : Nat} (hd : decode M.2.1 pc = .ok (.astore_n 3, 1)) (hp : hv_ok a2 = true) (k : hv_V l D M X rm Q bc bs h nx (pc + 1) (a0 :: a1 :: a2 :: some (.ref x) :: r) st) : hv_V l D M X rm Q bc bs h nx pc (a0 :: a1 :: a2 :: o :: r) (.ref x :: st) := fun p e R s m args below meth c A H locs cells slots ls hC hW hb hl => lv_astore_n hC.1 hC.2.1 hd rfl hl.has (hl.lt (i := 3) (by simp)) rfl (fun ls' h' => k p e R s m args below meth c A H locs cells slots ls' hC hW hb (hl.st1 (i := 3) (by simp) hp h'))
theorem V_lstore_3 {a0 a1 a2 o o2 : Option Value} {r : List (Option Value)} {x : Int64} (hd : decode M.2.1 pc = .ok (.lstore_n 3, 1)) (hp : hv_ok a2 = true) (k : hv_V l D M X rm Q bc bs h nx (pc + 1) (a0 :: a1 :: a2 :: some (.long x) :: none :: r) st) : hv_V l D M X rm Q bc bs h nx pc (a0 :: a1 :: a2 :: o :: o2 :: r) (.long x :: st) := fun p e R s m args below meth c A H locs cells slots ls hC hW hb hl => lv_lstore_n hC.1 hC.2.1 hd rfl hl.has (hl.lt (i := 3 + 1) (by simp)) rfl (fun ls' h' => k p e R s m args below meth c A H locs cells slots ls' hC hW hb (hl.st2 (i := 3) (by simp) hp h'))
theorem V_iinc_3 {a0 a1 a2 : Option Value} {r : List (Option Value)} {x : Int32} {n : Int} (v : Int32) (hd : decode M.2.1 pc = .ok (.iinc 3 n, 3)) (hv : Int32.ofInt n = v) (hp : hv_ok a2 = true) (k : hv_V l D M X rm Q bc bs h nx (pc + 3) (a0 :: a1 :: a2 :: some (.int (x + v)) :: r) st) : hv_V l D M X rm Q bc bs h nx pc (a0 :: a1 :: a2 :: some (.int x) :: r) st := fun p e R s m args below meth c A H locs cells slots ls hC hW hb hl => lv_iinc (k := 0) hC.1 hC.2.1 hd (hl.has1 (i := 3) (v := .int x) rfl) rfl (by rw [hv]) (hl.lt (i := 3) (by simp)) rfl (fun ls' h' => k p e R s m args below meth c A H locs cells slots ls' hC hW hb (hl.st1' (i := 3) (by simp) hp h'))
theorem V_drop_3 {a0 a1 a2 o : Option Value} {r : List (Option Value)}  (k : hv_V l D M X rm Q bc bs h nx pc (a0 :: a1 :: a2 :: none :: r) st) : hv_V l D M X rm Q bc bs h nx pc (a0 :: a1 :: a2 :: o :: r) st := fun p e R s m args below meth c A H locs cells slots ls hC hW hb hl => k p e R s m args below meth c A H locs cells slots ls hC hW hb (hl.drop (i := 3))
theorem V_istore_4 {a0 a1 a2 a3 o : Option Value} {r : List (Option Value)} {x : Int32} (hd : decode M.2.1 pc = .ok (.istore 4, 2)) (hp : hv_ok a3 = true) (k : hv_V l D M X rm Q bc bs h nx (pc + 2) (a0 :: a1 :: a2 :: a3 :: some (.int x) :: r) st) : hv_V l D M X rm Q bc bs h nx pc (a0 :: a1 :: a2 :: a3 :: o :: r) (.int x :: st) := fun p e R s m args below meth c A H locs cells slots ls hC hW hb hl => lv_istore hC.1 hC.2.1 hd hl.has (hl.lt (i := 4) (by simp)) rfl (fun ls' h' => k p e R s m args below meth c A H locs cells slots ls' hC hW hb (hl.st1 (i := 4) (by simp) hp h'))
theorem V_astore_4 {a0 a1 a2 a3 o : Option Value} {r : List (Option Value)} {x : Nat} (hd : decode M.2.1 pc = .ok (.astore 4, 2)) (hp : hv_ok a3 = true) (k : hv_V l D M X rm Q bc bs h nx (pc + 2) (a0 :: a1 :: a2 :: a3 :: some (.ref x) :: r) st) : hv_V l D M X rm Q bc bs h nx pc (a0 :: a1 :: a2 :: a3 :: o :: r) (.ref x :: st) := fun p e R s m args below meth c A H locs cells slots ls hC hW hb hl => lv_astore hC.1 hC.2.1 hd hl.has (hl.lt (i := 4) (by simp)) rfl (fun ls' h' => k p e R s m args below meth c A H locs cells slots ls' hC hW hb (hl.st1 (i := 4) (by simp) hp h'))
theorem V_lstore_4 {a0 a1 a2 a3 o o2 : Option Value} {r : List (Option Value)} {x : Int64} (hd : decode M.2.1 pc = .ok (.lstore 4, 2)) (hp : hv_ok a3 = true) (k : hv_V l D M X rm Q bc bs h nx (pc + 2) (a0 :: a1 :: a2 :: a3 :: some (.long x) :: none :: r) st) : hv_V l D M X rm Q bc bs h nx pc (a0 :: a1 :: a2 :: a3 :: o :: o2 :: r) (.long x :: st) := fun p e R s m args below meth c A H locs cells slots ls hC hW hb hl => lv_lstore hC.1 hC.2.1 hd hl.has (hl.lt (i := 4 + 1) (by simp)) rfl (fun ls' h' => k p e R s m args below meth c A H locs cells slots ls' hC hW hb (hl.st2 (i := 4) (by simp) hp h'))
theorem V_iinc_4 {a0 a1 a2 a3 : Option Value} {r : List (Option Value)} {x : Int32} {n : Int} (v : Int32) (hd : decode M.2.1 pc = .ok (.iinc 4 n, 3)) (hv : Int32.ofInt n = v) (hp : hv_ok a3 = true) (k : hv_V l D M X rm Q bc bs h nx (pc + 3) (a0 :: a1 :: a2 :: a3 :: some (.int (x + v)) :: r) st) : hv_V l D M X rm Q bc bs h nx pc (a0 :: a1 :: a2 :: a3 :: some (.int x) :: r) st := fun p e R s m args below meth c A H locs cells slots ls hC hW hb hl => lv_iinc (k := 0) hC.1 hC.2.1 hd (hl.has1 (i := 4) (v := .int x) rfl) rfl (by rw [hv]) (hl.lt (i := 4) (by simp)) rfl (fun ls' h' => k p e R s m args below meth c A H locs cells slots ls' hC hW hb (hl.st1' (i := 4) (by simp) hp h'))
theorem V_drop_4 {a0 a1 a2 a3 o : Option Value} {r : List (Option Value)}  (k : hv_V l D M X rm Q bc bs h nx pc (a0 :: a1 :: a2 :: a3 :: none :: r) st) : hv_V l D M X rm Q bc bs h nx pc (a0 :: a1 :: a2 :: a3 :: o :: r) st := fun p e R s m args below meth c A H locs cells slots ls hC hW hb hl => k p e R s m args below meth c A H locs cells slots ls hC hW hb (hl.drop (i := 4))
theorem V_istore_5 {a0 a1 a2 a3 a4 o : Option Value} {r : List (Option Value)} {x : Int32} (hd : decode M.2.1 pc = .ok (.istore 5, 2)) (hp : hv_ok a4 = true) (k : hv_V l D M X rm Q bc bs h nx (pc + 2) (a0 :: a1 :: a2 :: a3 :: a4 :: some (.int x) :: r) st) : hv_V l D M X rm Q bc bs h nx pc (a0 :: a1 :: a2 :: a3 :: a4 :: o :: r) (.int x :: st) := fun p e R s m args below meth c A H locs cells slots ls hC hW hb hl => lv_istore hC.1 hC.2.1 hd hl.has (hl.lt (i := 5) (by simp)) rfl (fun ls' h' => k p e R s m args below meth c A H locs cells slots ls' hC hW hb (hl.st1 (i := 5) (by simp) hp h'))
theorem V_astore_5 {a0 a1 a2 a3 a4 o : Option Value} {r : List (Option Value)} {x : Nat} (hd : decode M.2.1 pc = .ok (.astore 5, 2)) (hp : hv_ok a4 = true) (k : hv_V l D M X rm Q bc bs h nx (pc + 2) (a0 :: a1 :: a2 :: a3 :: a4 :: some (.ref x) :: r) st) : hv_V l D M X rm Q bc bs h nx pc (a0 :: a1 :: a2 :: a3 :: a4 :: o :: r) (.ref x :: st) := fun p e R s m args below meth c A H locs cells slots ls hC hW hb hl => lv_astore hC.1 hC.2.1 hd hl.has (hl.lt (i := 5) (by simp)) rfl (fun ls' h' => k p e R s m args below meth c A H locs cells slots ls' hC hW hb (hl.st1 (i := 5) (by simp) hp h'))
theorem V_lstore_5 {a0 a1 a2 a3 a4 o o2 : Option Value} {r : List (Option Value)} {x : Int64} (hd : decode M.2.1 pc = .ok (.lstore 5, 2)) (hp : hv_ok a4 = true) (k : hv_V l D M X rm Q bc bs h nx (pc + 2) (a0 :: a1 :: a2 :: a3 :: a4 :: some (.long x) :: none :: r) st) : hv_V l D M X rm Q bc bs h nx pc (a0 :: a1 :: a2 :: a3 :: a4 :: o :: o2 :: r) (.long x :: st) := fun p e R s m args below meth c A H locs cells slots ls hC hW hb hl => lv_lstore hC.1 hC.2.1 hd hl.has (hl.lt (i := 5 + 1) (by simp)) rfl (fun ls' h' => k p e R s m args below meth c A H locs cells slots ls' hC hW hb (hl.st2 (i := 5) (by simp) hp h'))
theorem V_iinc_5 {a0 a1 a2 a3 a4 : Option Value} {r : List (Option Value)} {x : Int32} {n : Int} (v : Int32) (hd : decode M.2.1 pc = .ok (.iinc 5 n, 3)) (hv : Int32.ofInt n = v) (hp : hv_ok a4 = true) (k : hv_V l D M X rm Q bc bs h nx (pc + 3) (a0 :: a1 :: a2 :: a3 :: a4 :: some (.int (x + v)) :: r) st) : hv_V l D M X rm Q bc bs h nx pc (a0 :: a1 :: a2 :: a3 :: a4 :: some (.int x) :: r) st := fun p e R s m args below meth c A H locs cells slots ls hC hW hb hl => lv_iinc (k := 0) hC.1 hC.2.1 hd (hl.has1 (i := 5) (v := .int x) rfl) rfl (by rw [hv]) (hl.lt (i := 5) (by simp)) rfl (fun ls' h' => k p e R s m args below meth c A H locs cells slots ls' hC hW hb (hl.st1' (i := 5) (by simp) hp h'))
theorem V_drop_5 {a0 a1 a2 a3 a4 o : Option Value} {r : List (Option Value)}  (k : hv_V l D M X rm Q bc bs h nx pc (a0 :: a1 :: a2 :: a3 :: a4 :: none :: r) st) : hv_V l D M X rm Q bc bs h nx pc (a0 :: a1 :: a2 :: a3 :: a4 :: o :: r) st := fun p e R s m args below meth c A H locs cells slots ls hC hW hb hl => k p e R s m args below meth c A H locs cells slots ls hC hW hb (hl.drop (i := 5))
theorem V_istore_6 {a0 a1 a2 a3 a4 a5 o : Option Value} {r : List (Option Value)} {x : Int32} (hd : decode M.2.1 pc = .ok (.istore 6, 2)) (hp : hv_ok a5 = true) (k : hv_V l D M X rm Q bc bs h nx (pc + 2) (a0 :: a1 :: a2 :: a3 :: a4 :: a5 :: some (.int x) :: r) st) : hv_V l D M X rm Q bc bs h nx pc (a0 :: a1 :: a2 :: a3 :: a4 :: a5 :: o :: r) (.int x :: st) := fun p e R s m args below meth c A H locs cells slots ls hC hW hb hl => lv_istore hC.1 hC.2.1 hd hl.has (hl.lt (i := 6) (by simp)) rfl (fun ls' h' => k p e R s m args below meth c A H locs cells slots ls' hC hW hb (hl.st1 (i := 6) (by simp) hp h'))
theorem V_astore_6 {a0 a1 a2 a3 a4 a5 o : Option Value} {r : List (Option Value)} {x : Nat} (hd : decode M.2.1 pc = .ok (.astore 6, 2)) (hp : hv_ok a5 = true) (k : hv_V l D M X rm Q bc bs h nx (pc + 2) (a0 :: a1 :: a2 :: a3 :: a4 :: a5 :: some (.ref x) :: r) st) : hv_V l D M X rm Q bc bs h nx pc (a0 :: a1 :: a2 :: a3 :: a4 :: a5 :: o :: r) (.ref x :: st) := fun p e R s m args below meth c A H locs cells slots ls hC hW hb hl => lv_astore hC.1 hC.2.1 hd hl.has (hl.lt (i := 6) (by simp)) rfl (fun ls' h' => k p e R s m args below meth c A H locs cells slots ls' hC hW hb (hl.st1 (i := 6) (by simp) hp h'))
theorem V_lstore_6 {a0 a1 a2 a3 a4 a5 o o2 : Option Value} {r : List (Option Value)} {x : Int64} (hd : decode M.2.1 pc = .ok (.lstore 6, 2)) (hp : hv_ok a5 = true) (k : hv_V l D M X rm Q bc bs h nx (pc + 2) (a0 :: a1 :: a2 :: a3 :: a4 :: a5 :: some (.long x) :: none :: r) st) : hv_V l D M X rm Q bc bs h nx pc (a0 :: a1 :: a2 :: a3 :: a4 :: a5 :: o :: o2 :: r) (.long x :: st) := fun p e R s m args below meth c A H locs cells slots ls hC hW hb hl => lv_lstore hC.1 hC.2.1 hd hl.has (hl.lt (i := 6 + 1) (by simp)) rfl (fun ls' h' => k p e R s m args below meth c A H locs cells slots ls' hC hW hb (hl.st2 (i := 6) (by simp) hp h'))
theorem V_iinc_6 {a0 a1 a2 a3 a4 a5 : Option Value} {r : List (Option Value)} {x : Int32} {n : Int} (v : Int32) (hd : decode M.2.1 pc = .ok (.iinc 6 n, 3)) (hv : Int32.ofInt n = v) (hp : hv_ok a5 = true) (k : hv_V l D M X rm Q bc bs h nx (pc + 3) (a0 :: a1 :: a2 :: a3 :: a4 :: a5 :: some (.int (x + v)) :: r) st) : hv_V l D M X rm Q bc bs h nx pc (a0 :: a1 :: a2 :: a3 :: a4 :: a5 :: some (.int x) :: r) st := fun p e R s m args below meth c A H locs cells slots ls hC hW hb hl => lv_iinc (k := 0) hC.1 hC.2.1 hd (hl.has1 (i := 6) (v := .int x) rfl) rfl (by rw [hv]) (hl.lt (i := 6) (by simp)) rfl (fun ls' h' => k p e R s m args below meth c A H locs cells slots ls' hC hW hb (hl.st1' (i := 6) (by simp) hp h'))
theorem V_drop_6 {a0 a1 a2 a3 a4 a5 o : Option Value} {r : List (Option Value)}  (k : hv_V l D M X rm Q bc bs h nx pc (a0 :: a1 :: a2 :: a3 :: a4 :: a5 :: none :: r) st) : hv_V l D M X rm Q bc bs h nx pc (a0 :: a1 :: a2 :: a3 :: a4 :: a5 :: o :: r) st := fun p e R s m args below meth c A H locs cells slots ls hC hW hb hl => k p e R s m args below meth c A H locs cells slots ls hC hW hb (hl.drop (i := 6))
theorem V_istore_7 {a0 a1 a2 a3 a4 a5 a6 o : Option Value} {r : List (Option Value)} {x : Int32} (hd : decode M.2.1 pc = .ok (.istore 7, 2)) (hp : hv_ok a6 = true) (k : hv_V l D M X rm Q bc bs h nx (pc + 2) (a0 :: a1 :: a2 :: a3 :: a4 :: a5 :: a6 :: some (.int x) :: r) st) : hv_V l D M X rm Q bc bs h nx pc (a0 :: a1 :: a2 :: a3 :: a4 :: a5 :: a6 :: o :: r) (.int x :: st) := fun p e R s m args below meth c A H locs cells slots ls hC hW hb hl => lv_istore hC.1 hC.2.1 hd hl.has (hl.lt (i := 7) (by simp)) rfl (fun ls' h' => k p e R s m args below meth c A H locs cells slots ls' hC hW hb (hl.st1 (i := 7) (by simp) hp h'))
theorem V_astore_7 {a0 a1 a2 a3 a4 a5 a6 o : Option Value} {r : List (Option Value)} {x : Nat} (hd : decode M.2.1 pc = .ok (.astore 7, 2)) (hp : hv_ok a6 = true) (k : hv_V l D M X rm Q bc bs h nx (pc + 2) (a0 :: a1 :: a2 :: a3 :: a4 :: a5 :: a6 :: some (.ref x) :: r) st) : hv_V l D M X rm Q bc bs h nx pc (a0 :: a1 :: a2 :: a3 :: a4 :: a5 :: a6 :: o :: r) (.ref x :: st) := fun p e R s m args below meth c A H locs cells slots ls hC hW hb hl => lv_astore hC.1 hC.2.1 hd hl.has (hl.lt (i := 7) (by simp)) rfl (fun ls' h' => k p e R s m args below meth c A H locs cells slots ls' hC hW hb (hl.st1 (i := 7) (by simp) hp h'))
theorem V_lstore_7 {a0 a1 a2 a3 a4 a5 a6 o o2 : Option Value} {r : List (Option Value)} {x : Int64} (hd : decode M.2.1 pc = .ok (.lstore 7, 2)) (hp : hv_ok a6 = true) (k : hv_V l D M X rm Q bc bs h nx (pc + 2) (a0 :: a1 :: a2 :: a3 :: a4 :: a5 :: a6 :: some (.long x) :: none :: r) st) : hv_V l D M X rm Q bc bs h nx pc (a0 :: a1 :: a2 :: a3 :: a4 :: a5 :: a6 :: o :: o2 :: r) (.long x :: st) := fun p e R s m args below meth c A H locs cells slots ls hC hW hb hl => lv_lstore hC.1 hC.2.1 hd hl.has (hl.lt (i := 7 + 1) (by simp)) rfl (fun ls' h' => k p e R s m args below meth c A H locs cells slots ls' hC hW hb (hl.st2 (i := 7) (by simp) hp h'))
theorem V_iinc_7 {a0 a1 a2 a3 a4 a5 a6 : Option Value} {r : List (Option Value)} {x : Int32} {n : Int} (v : Int32) (hd : decode M.2.1 pc = .ok (.iinc 7 n, 3)) (hv : Int32.ofInt n = v) (hp : hv_ok a6 = true) (k : hv_V l D M X rm Q bc bs h nx (pc + 3) (a0 :: a1 :: a2 :: a3 :: a4 :: a5 :: a6 :: some (.int (x + v)) :: r) st) : hv_V l D M X rm Q bc bs h nx pc (a0 :: a1 :: a2 :: a3 :: a4 :: a5 :: a6 :: some (.int x) :: r) st := fun p e R s m args below meth c A H locs cells slots ls hC hW hb hl => lv_iinc (k := 0) hC.1 hC.2.1 hd (hl.has1 (i := 7) (v := .int x) rfl) rfl (by rw [hv]) (hl.lt (i := 7) (by simp)) rfl (fun ls' h' => k p e R s m args below meth c A H locs cells slots ls' hC hW hb (hl.st1' (i := 7) (by simp) hp h'))
theorem V_drop_7 {a0 a1 a2 a3 a4 a5 a6 o : Option Value} {r : List (Option Value)}  (k : hv_V l D M X rm Q bc bs h nx pc (a0 :: a1 :: a2 :: a3 :: a4 :: a5 :: a6 :: none :: r) st) : hv_V l D M X rm Q bc bs h nx pc (a0 :: a1 :: a2 :: a3 :: a4 :: a5 :: a6 :: o :: r) st := fun p e R s m args below meth c A H locs cells slots ls hC hW hb hl => k p e R s m args below meth c A H locs cells slots ls hC hW hb (hl.drop (i := 7))
theorem V_istore_8 {a0 a1 a2 a3 a4 a5 a6 a7 o : Option Value} {r : List (Option Value)} {x : Int32} (hd : decode M.2.1 pc = .ok (.istore 8, 2)) (hp : hv_ok a7 = true) (k : hv_V l D M X rm Q bc bs h nx (pc + 2) (a0 :: a1 :: a2 :: a3 :: a4 :: a5 :: a6 :: a7 :: some (.int x) :: r) st) : hv_V l D M X rm Q bc bs h nx pc (a0 :: a1 :: a2 :: a3 :: a4 :: a5 :: a6 :: a7 :: o :: r) (.int x :: st) := fun p e R s m args below meth c A H locs cells slots ls hC hW hb hl => lv_istore hC.1 hC.2.1 hd hl.has (hl.lt (i := 8) (by simp)) rfl (fun ls' h' => k p e R s m args below meth c A H locs cells slots ls' hC hW hb (hl.st1 (i := 8) (by simp) hp h'))
theorem V_astore_8 {a0 a1 a2 a3 a4 a5 a6 a7 o : Option Value} {r : List (Option Value)} {x : Nat} (hd : decode M.2.1 pc = .ok (.astore 8, 2)) (hp : hv_ok a7 = true) (k : hv_V l D M X rm Q bc bs h nx (pc + 2) (a0 :: a1 :: a2 :: a3 :: a4 :: a5 :: a6 :: a7 :: some (.ref x) :: r) st) : hv_V l D M X rm Q bc bs h nx pc (a0 :: a1 :: a2 :: a3 :: a4 :: a5 :: a6 :: a7 :: o :: r) (.ref x :: st) := fun p e R s m args below meth c A H locs cells slots ls hC hW hb hl => lv_astore hC.1 hC.2.1 hd hl.has (hl.lt (i := 8) (by simp)) rfl (fun ls' h' => k p e R s m args below meth c A H locs cells slots ls' hC hW hb (hl.st1 (i := 8) (by simp) hp h'))
theorem V_lstore_8 {a0 a1 a2 a3 a4 a5 a6 a7 o o2 : Option Value} {r : List (Option Value)} {x : Int64} (hd : decode M.2.1 pc = .ok (.lstore 8, 2)) (hp : hv_ok a7 = true) (k : hv_V l D M X rm Q bc bs h nx (pc + 2) (a0 :: a1 :: a2 :: a3 :: a4 :: a5 :: a6 :: a7 :: some (.long x) :: none :: r) st) : hv_V l D M X rm Q bc bs h nx pc (a0 :: a1 :: a2 :: a3 :: a4 :: a5 :: a6 :: a7 :: o :: o2 :: r) (.long x :: st) := fun p e R s m args below meth c A H locs cells slots ls hC hW hb hl => lv_lstore hC.1 hC.2.1 hd hl.has (hl.lt (i := 8 + 1) (by simp)) rfl (fun ls' h' => k p e R s m args below meth c A H locs cells slots ls' hC hW hb (hl.st2 (i := 8) (by simp) hp h'))
theorem V_iinc_8 {a0 a1 a2 a3 a4 a5 a6 a7 : Option Value} {r : List (Option Value)} {x : Int32} {n : Int} (v : Int32) (hd : decode M.2.1 pc = .ok (.iinc 8 n, 3)) (hv : Int32.ofInt n = v) (hp : hv_ok a7 = true) (k : hv_V l D M X rm Q bc bs h nx (pc + 3) (a0 :: a1 :: a2 :: a3 :: a4 :: a5 :: a6 :: a7 :: some (.int (x + v)) :: r) st) : hv_V l D M X rm Q bc bs h nx pc (a0 :: a1 :: a2 :: a3 :: a4 :: a5 :: a6 :: a7 :: some (.int x) :: r) st := fun p e R s m args below meth c A H locs cells slots ls hC hW hb hl => lv_iinc (k := 0) hC.1 hC.2.1 hd (hl.has1 (i := 8) (v := .int x) rfl) rfl (by rw [hv]) (hl.lt (i := 8) (by simp)) rfl (fun ls' h' => k p e R s m args below meth c A H locs cells slots ls' hC hW hb (hl.st1' (i := 8) (by simp) hp h'))
theorem V_drop_8 {a0 a1 a2 a3 a4 a5 a6 a7 o : Option Value} {r : List (Option Value)}  (k : hv_V l D M X rm Q bc bs h nx pc (a0 :: a1 :: a2 :: a3 :: a4 :: a5 :: a6 :: a7 :: none :: r) st) : hv_V l D M X rm Q bc bs h nx pc (a0 :: a1 :: a2 :: a3 :: a4 :: a5 :: a6 :: a7 :: o :: r) st := fun p e R s m args below meth c A H locs cells slots ls hC hW hb hl => k p e R s m args below meth c A H locs cells slots ls hC hW hb (hl.drop (i := 8))
theorem V_istore_9 {a0 a1 a2 a3 a4 a5 a6 a7 a8 o : Option Value} {r : List (Option Value)} {x : Int32} (hd : decode M.2.1 pc = .ok (.istore 9, 2)) (hp : hv_ok a8 = true) (k : hv_V l D M X rm Q bc bs h nx (pc + 2) (a0 :: a1 :: a2 :: a3 :: a4 :: a5 :: a6 :: a7 :: a8 :: some (.int x) :: r) st) : hv_V l D M X rm Q bc bs h nx pc (a0 :: a1 :: a2 :: a3 :: a4 :: a5 :: a6 :: a7 :: a8 :: o :: r) (.int x :: st) := fun p e R s m args below meth c A H locs cells slots ls hC hW hb hl => lv_istore hC.1 hC.2.1 hd hl.has (hl.lt (i := 9) (by simp)) rfl (fun ls' h' => k p e R s m args below meth c A H locs cells slots ls' hC hW hb (hl.st1 (i := 9) (by simp) hp h'))
theorem V_astore_9 {a0 a1 a2 a3 a4 a5 a6 a7 a8 o : Option Value} {r : List (Option Value)} {x : Nat} (hd : decode M.2.1 pc = .ok (.astore 9, 2)) (hp : hv_ok a8 = true) (k : hv_V l D M X rm Q bc bs h nx (pc + 2) (a0 :: a1 :: a2 :: a3 :: a4 :: a5 :: a6 :: a7 :: a8 :: some (.ref x) :: r) st) : hv_V l D M X rm Q bc bs h nx pc (a0 :: a1 :: a2 :: a3 :: a4 :: a5 :: a6 :: a7 :: a8 :: o :: r) (.ref x :: st) := fun p e R s m args below meth c A H locs cells slots ls hC hW hb hl => lv_astore hC.1 hC.2.1 hd hl.has (hl.lt (i := 9) (by simp)) rfl (fun ls' h' => k p e R s m args below meth c A H locs cells slots ls' hC hW hb (hl.st1 (i := 9) (by simp) hp h'))
theorem V_lstore_9 {a0 a1 a2 a3 a4 a5 a6 a7 a8 o o2 : Option Value} {r : List (Option Value)} {x : Int64} (hd : decode M.2.1 pc = .ok (.lstore 9, 2)) (hp : hv_ok a8 = true) (k : hv_V l D M X rm Q bc bs h nx (pc + 2) (a0 :: a1 :: a2 :: a3 :: a4 :: a5 :: a6 :: a7 :: a8 :: some (.long x) :: none :: r) st) : hv_V l D M X rm Q bc bs h nx pc (a0 :: a1 :: a2 :: a3 :: a4 :: a5 :: a6 :: a7 :: a8 :: o :: o2 :: r) (.long x :: st) := fun p e R s m args below meth c A H locs cells slots ls hC hW hb hl => lv_lstore hC.1 hC.2.1 hd hl.has (hl.lt (i := 9 + 1) (by simp)) rfl (fun ls' h' => k p e R s m args below meth c A H locs cells slots ls' hC hW hb (hl.st2 (i := 9) (by simp) hp h'))
theorem V_iinc_9 {a0 a1 a2 a3 a4 a5 a6 a7 a8 : Option Value} {r : List (Option Value)} {x : Int32} {n : Int} (v : Int32) (hd : decode M.2.1 pc = .ok (.iinc 9 n, 3)) (hv : Int32.ofInt n = v) (hp : hv_ok a8 = true) (k : hv_V l D M X rm Q bc bs h nx (pc + 3) (a0 :: a1 :: a2 :: a3 :: a4 :: a5 :: a6 :: a7 :: a8 :: some (.int (x + v)) :: r) st) : hv_V l D M X rm Q bc bs h nx pc (a0 :: a1 :: a2 :: a3 :: a4 :: a5 :: a6 :: a7 :: a8 :: some (.int x) :: r) st := fun p e R s m args below meth c A H locs cells slots ls hC hW hb hl => lv_iinc (k := 0) hC.1 hC.2.1 hd (hl.has1 (i := 9) (v := .int x) rfl) rfl (by rw [hv]) (hl.lt (i := 9) (by simp)) rfl (fun ls' h' => k p e R s m args below meth c A H locs cells slots ls' hC hW hb (hl.st1' (i := 9) (by simp) hp h'))
theorem V_drop_9 {a0 a1 a2 a3 a4 a5 a6 a7 a8 o : Option Value} {r : List (Option Value)}  (k : hv_V l D M X rm Q bc bs h nx pc (a0 :: a1 :: a2 :: a3 :: a4 :: a5 :: a6 :: a7 :: a8 :: none :: r) st) : hv_V l D M X rm Q bc bs h nx pc (a0 :: a1 :: a2 :: a3 :: a4 :: a5 :: a6 :: a7 :: a8 :: o :: r) st := fun p e R s m args below meth c A H locs cells slots ls hC hW hb hl => k p e R s m args below meth c A H locs cells slots ls hC hW hb (hl.drop (i := 9))
theorem V_istore_10 {a0 a1 a2 a3 a4 a5 a6 a7 a8 a9 o : Option Value} {r : List (Option Value)} {x : Int32} (hd : decode M.2.1 pc = .ok (.istore 10, 2)) (hp : hv_ok a9 = true) (k : hv_V l D M X rm Q bc bs h nx (pc + 2) (a0 :: a1 :: a2 :: a3 :: a4 :: a5 :: a6 :: a7 :: a8 :: a9 :: some (.int x) :: r) st) : hv_V l D M X rm Q bc bs h nx pc (a0 :: a1 :: a2 :: a3 :: a4 :: a5 :: a6 :: a7 :: a8 :: a9 :: o :: r) (.int x :: st) := fun p e R s m args below meth c A H locs cells slots ls hC hW hb hl => lv_istore hC.1 hC.2.1 hd hl.has (hl.lt (i := 10) (by simp)) rfl (fun ls' h' => k p e R s m args below meth c A H locs cells slots ls' hC hW hb (hl.st1 (i := 10) (by simp) hp h'))
theorem V_astore_10 {a0 a1 a2 a3 a4 a5 a6 a7 a8 a9 o : Option Value} {r : List (Option Value)} {x : Nat} (hd : decode M.2.1 pc = .ok (.astore 10, 2)) (hp : hv_ok a9 = true) (k : hv_V l D M X rm Q bc bs h nx (pc + 2) (a0 :: a1 :: a2 :: a3 :: a4 :: a5 :: a6 :: a7 :: a8 :: a9 :: some (.ref x) :: r) st) : hv_V l D M X rm Q bc bs h nx pc (a0 :: a1 :: a2 :: a3 :: a4 :: a5 :: a6 :: a7 :: a8 :: a9 :: o :: r) (.ref x :: st) := fun p e R s m args below meth c A H locs cells slots ls hC hW hb hl => lv_astore hC.1 hC.2.1 hd hl.has (hl.lt (i := 10) (by simp)) rfl (fun ls' h' => k p e R s m args below meth c A H locs cells slots ls' hC hW hb (hl.st1 (i := 10) (by simp) hp h'))
theorem V_lstore_10 {a0 a1 a2 a3 a4 a5 a6 a7 a8 a9 o o2 : Option Value} {r : List (Option Value)} {x : Int64} (hd : decode M.2.1 pc = .ok (.lstore 10, 2)) (hp : hv_ok a9 = true) (k : hv_V l D M X rm Q bc bs h nx (pc + 2) (a0 :: a1 :: a2 :: a3 :: a4 :: a5 :: a6 :: a7 :: a8 :: a9 :: some (.long x) :: none :: r) st) : hv_V l D M X rm Q bc bs h nx pc (a0 :: a1 :: a2 :: a3 :: a4 :: a5 :: a6 :: a7 :: a8 :: a9 :: o :: o2 :: r) (.long x :: st) := fun p e R s m args below meth c A H locs cells slots ls hC hW hb hl => lv_lstore hC.1 hC.2.1 hd hl.has (hl.lt (i := 10 + 1) (by simp)) rfl (fun ls' h' => k p e R s m args below meth c A H locs cells slots ls' hC hW hb (hl.st2 (i := 10) (by simp) hp h'))
theorem V_iinc_10 {a0 a1 a2 a3 a4 a5 a6 a7 a8 a9 : Option Value} {r : List (Option Value)} {x : Int32} {n : Int} (v : Int32) (hd : decode M.2.1 pc = .ok (.iinc 10 n, 3)) (hv : Int32.ofInt n = v) (hp : hv_ok a9 = true) (k : hv_V l D M X rm Q bc bs h nx (pc + 3) (a0 :: a1 :: a2 :: a3 :: a4 :: a5 :: a6 :: a7 :: a8 :: a9 :: some (.int (x + v)) :: r) st) : hv_V l D M X rm Q bc bs h nx pc (a0 :: a1 :: a2 :: a3 :: a4 :: a5 :: a6 :: a7 :: a8 :: a9 :: some (.int x) :: r) st := fun p e R s m args below meth c A H locs cells slots ls hC hW hb hl => lv_iinc (k := 0) hC.1 hC.2.1 hd (hl.has1 (i := 10) (v := .int x) rfl) rfl (by rw [hv]) (hl.lt (i := 10) (by simp)) rfl (fun ls' h' => k p e R s m args below meth c A H locs cells slots ls' hC hW hb (hl.st1' (i := 10) (by simp) hp h'))
theorem V_drop_10 {a0 a1 a2 a3 a4 a5 a6 a7 a8 a9 o : Option Value} {r : List (Option Value)}  (k : hv_V l D M X rm Q bc bs h nx pc (a0 :: a1 :: a2 :: a3 :: a4 :: a5 :: a6 :: a7 :: a8 :: a9 :: none :: r) st) : hv_V l D M X rm Q bc bs h nx pc (a0 :: a1 :: a2 :: a3 :: a4 :: a5 :: a6 :: a7 :: a8 :: a9 :: o :: r) st := fun p e R s m args below meth c A H locs cells slots ls hC hW hb hl => k p e R s m args below meth c A H locs cells slots ls hC hW hb (hl.drop (i := 10))
theorem V_istore_11 {a0 a1 a2 a3 a4 a5 a6 a7 a8 a9 a10 o : Option Value} {r : List (Option Value)} {x : Int32} (hd : decode M.2.1 pc = .ok (.istore 11, 2)) (hp : hv_ok a10 = true) (k : hv_V l D M X rm Q bc bs h nx (pc + 2) (a0 :: a1 :: a2 :: a3 :: a4 :: a5 :: a6 :: a7 :: a8 :: a9 :: a10 :: some (.int x) :: r) st) : hv_V l D M X rm Q bc bs h nx pc (a0 :: a1 :: a2 :: a3 :: a4 :: a5 :: a6 :: a7 :: a8 :: a9 :: a10 :: o :: r) (.int x :: st) := fun p e R s m args below meth c A H locs cells slots ls hC hW hb hl => lv_istore hC.1 hC.2.1 hd hl.has (hl.lt (i := 11) (by simp)) rfl (fun ls' h' => k p e R s m args below meth c A H locs cells slots ls' hC hW hb (hl.st1 (i := 11) (by simp) hp h'))
theorem V_astore_11 {a0 a1 a2 a3 a4 a5 a6 a7 a8 a9 a10 o : Option Value} {r : List (Option Value)} {x : Nat} (hd : decode M.2.1 pc = .ok (.astore 11, 2)) (hp : hv_ok a10 = true) (k : hv_V l D M X rm Q bc bs h nx (pc + 2) (a0 :: a1 :: a2 :: a3 :: a4 :: a5 :: a6 :: a7 :: a8 :: a9 :: a10 :: some (.ref x) :: r) st) : hv_V l D M X rm Q bc bs h nx pc (a0 :: a1 :: a2 :: a3 :: a4 :: a5 :: a6 :: a7 :: a8 :: a9 :: a10 :: o :: r) (.ref x :: st) := fun p e R s m args below meth c A H locs cells slots ls hC hW hb hl => lv_astore hC.1 hC.2.1 hd hl.has (hl.lt (i := 11) (by simp)) rfl (fun ls' h' => k p e R s m args below meth c A H locs cells slots ls' hC hW hb (hl.st1 (i := 11) (by simp) hp h'))
theorem V_lstore_11 {a0 a1 a2 a3 a4 a5 a6 a7 a8 a9 a10 o o2 : Option Value} {r : List (Option Value)} {x : Int64} (hd : decode M.2.1 pc = .ok (.lstore 11, 2)) (hp : hv_ok a10 = true) (k : hv_V l D M X rm Q bc bs h nx (pc + 2) (a0 :: a1 :: a2 :: a3 :: a4 :: a5 :: a6 :: a7 :: a8 :: a9 :: a10 :: some (.long x) :: none :: r) st) : hv_V l D M X rm Q bc bs h nx pc (a0 :: a1 :: a2 :: a3 :: a4 :: a5 :: a6 :: a7 :: a8 :: a9 :: a10 :: o :: o2 :: r) (.long x :: st) := fun p e R s m args below meth c A H locs cells slots ls hC hW hb hl => lv_lstore hC.1 hC.2.1 hd hl.has (hl.lt (i := 11 + 1) (by simp)) rfl (fun ls' h' => k p e R s m args below meth c A H locs cells slots ls' hC hW hb (hl.st2 (i := 11) (by simp) hp h'))
theorem V_iinc_11 {a0 a1 a2 a3 a4 a5 a6 a7 a8 a9 a10 : Option Value} {r : List (Option Value)} {x : Int32} {n : Int} (v : Int32) (hd : decode M.2.1 pc = .ok (.iinc 11 n, 3)) (hv : Int32.ofInt n = v) (hp : hv_ok a10 = true) (k : hv_V l D M X rm Q bc bs h nx (pc + 3) (a0 :: a1 :: a2 :: a3 :: a4 :: a5 :: a6 :: a7 :: a8 :: a9 :: a10 :: some (.int (x + v)) :: r) st) : hv_V l D M X rm Q bc bs h nx pc (a0 :: a1 :: a2 :: a3 :: a4 :: a5 :: a6 :: a7 :: a8 :: a9 :: a10 :: some (.int x) :: r) st := fun p e R s m args below meth c A H locs cells slots ls hC hW hb hl => lv_iinc (k := 0) hC.1 hC.2.1 hd (hl.has1 (i := 11) (v := .int x) rfl) rfl (by rw [hv]) (hl.lt (i := 11) (by simp)) rfl (fun ls' h' => k p e R s m args below meth c A H locs cells slots ls' hC hW hb (hl.st1' (i := 11) (by simp) hp h'))
theorem V_drop_11 {a0 a1 a2 a3 a4 a5 a6 a7 a8 a9 a10 o : Option Value} {r : List (Option Value)}  (k : hv_V l D M X rm Q bc bs h nx pc (a0 :: a1 :: a2 :: a3 :: a4 :: a5 :: a6 :: a7 :: a8 :: a9 :: a10 :: none :: r) st) : hv_V l D M X rm Q bc bs h nx pc (a0 :: a1 :: a2 :: a3 :: a4 :: a5 :: a6 :: a7 :: a8 :: a9 :: a10 :: o :: r) st := fun p e R s m args below meth c A H locs cells slots ls hC hW hb hl => k p e R s m args below meth c A H locs cells slots ls hC hW hb (hl.drop (i := 11))
theorem V_istore_12 {a0 a1 a2 a3 a4 a5 a6 a7 a8 a9 a10 a11 o : Option Value} {r : List (Option Value)} {x : Int32} (hd : decode M.2.1 pc = .ok (.istore 12, 2)) (hp : hv_ok a11 = true) (k : hv_V l D M X rm Q bc bs h nx (pc + 2) (a0 :: a1 :: a2 :: a3 :: a4 :: a5 :: a6 :: a7 :: a8 :: a9 :: a10 :: a11 :: some (.int x) :: r) st) : hv_V l D M X rm Q bc bs h nx pc (a0 :: a1 :: a2 :: a3 :: a4 :: a5 :: a6 :: a7 :: a8 :: a9 :: a10 :: a11 :: o :: r) (.int x :: st) := fun p e R s m args below meth c A H locs cells slots ls hC hW hb hl => lv_istore hC.1 hC.2.1 hd hl.has (hl.lt (i := 12) (by simp)) rfl (fun ls' h' => k p e R s m args below meth c A H locs cells slots ls' hC hW hb (hl.st1 (i := 12) (by simp) hp h'))
theorem V_astore_12 {a0 a1 a2 a3 a4 a5 a6 a7 a8 a9 a10 a11 o : Option Value} {r : List (Option Value)} {x : Nat} (hd : decode M.2.1 pc = .ok (.astore 12, 2)) (hp : hv_ok a11 = true) (k : hv_V l D M X rm Q bc bs h nx (pc + 2) (a0 :: a1 :: a2 :: a3 :: a4 :: a5 :: a6 :: a7 :: a8 :: a9 :: a10 :: a11 :: some (.ref x) :: r) st) : hv_V l D M X rm Q bc bs h nx pc (a0 :: a1 :: a2 :: a3 :: a4 :: a5 :: a6 :: a7 :: a8 :: a9 :: a10 :: a11 :: o :: r) (.ref x :: st) := fun p e R s m args below meth c A H locs cells slots ls hC hW hb hl => lv_astore hC.1 hC.2.1 hd hl.has (hl.lt (i := 12) (by simp)) rfl (fun ls' h' => k p e R s m args below meth c A H locs cells slots ls' hC hW hb (hl.st1 (i := 12) (by simp) hp h'))
theorem V_lstore_12 {a0 a1 a2 a3 a4 a5 a6 a7 a8 a9 a10 a11 o o2 : Option Value} {r : List (Option Value)} {x : Int64} (hd : decode M.2.1 pc = .ok (.lstore 12, 2)) (hp : hv_ok a11 = true) (k : hv_V l D M X rm Q bc bs h nx (pc + 2) (a0 :: a1 :: a2 :: a3 :: a4 :: a5 :: a6 :: a7 :: a8 :: a9 :: a10 :: a11 :: some (.long x) :: none :: r) st) : hv_V l D M X rm Q bc bs h nx pc (a0 :: a1 :: a2 :: a3 :: a4 :: a5 :: a6 :: a7 :: a8 :: a9 :: a10 :: a11 :: o :: o2 :: r) (.long x :: st) := fun p e R s m args below meth c A H locs cells slots ls hC hW hb hl => lv_lstore hC.1 hC.2.1 hd hl.has (hl.lt (i := 12 + 1) (by simp)) rfl (fun ls' h' => k p e R s m args below meth c A H locs cells slots ls' hC hW hb (hl.st2 (i := 12) (by simp) hp h'))
theorem V_iinc_12 {a0 a1 a2 a3 a4 a5 a6 a7 a8 a9 a10 a11 : Option Value} {r : List (Option Value)} {x : Int32} {n : Int} (v : Int32) (hd : decode M.2.1 pc = .ok (.iinc 12 n, 3)) (hv : Int32.ofInt n = v) (hp : hv_ok a11 = true) (k : hv_V l D M X rm Q bc bs h nx (pc + 3) (a0 :: a1 :: a2 :: a3 :: a4 :: a5 :: a6 :: a7 :: a8 :: a9 :: a10 :: a11 :: some (.int (x + v)) :: r) st) : hv_V l D M X rm Q bc bs h nx pc (a0 :: a1 :: a2 :: a3 :: a4 :: a5 :: a6 :: a7 :: a8 :: a9 :: a10 :: a11 :: some (.int x) :: r) st := fun p e R s m args below meth c A H locs cells slots ls hC hW hb hl => lv_iinc (k := 0) hC.1 hC.2.1 hd (hl.has1 (i := 12) (v := .int x) rfl) rfl (by rw [hv]) (hl.lt (i := 12) (by simp)) rfl (fun ls' h' => k p e R s m args below meth c A H locs cells slots ls' hC hW hb (hl.st1' (i := 12) (by simp) hp h'))
theorem V_drop_12 {a0 a1 a2 a3 a4 a5 a6 a7 a8 a9 a10 a11 o : Option Value} {r : List (Option Value)}  (k : hv_V l D M X rm Q bc bs h nx pc (a0 :: a1 :: a2 :: a3 :: a4 :: a5 :: a6 :: a7 :: a8 :: a9 :: a10 :: a11 :: none :: r) st) : hv_V l D M X rm Q bc bs h nx pc (a0 :: a1 :: a2 :: a3 :: a4 :: a5 :: a6 :: a7 :: a8 :: a9 :: a10 :: a11 :: o :: r) st := fun p e R s m args below meth c A H locs cells slots ls hC hW hb hl => k p e R s m args below meth c A H locs cells slots ls hC hW hb (hl.drop (i := 12))
theorem V_istore_13 {a0 a1 a2 a3 a4 a5 a6 a7 a8 a9 a10 a11 a12 o : Option Value} {r : List (Option Value)} {x : Int32} (hd : decode M.2.1 pc = .ok (.istore 13, 2)) (hp : hv_ok a12 = true) (k : hv_V l D M X rm Q bc bs h nx (pc + 2) (a0 :: a1 :: a2 :: a3 :: a4 :: a5 :: a6 :: a7 :: a8 :: a9 :: a10 :: a11 :: a12 :: some (.int x) :: r) st) : hv_V l D M X rm Q bc bs h nx pc (a0 :: a1 :: a2 :: a3 :: a4 :: a5 :: a6 :: a7 :: a8 :: a9 :: a10 :: a11 :: a12 :: o :: r) (.int x :: st) := fun p e R s m args below meth c A H locs cells slots ls hC hW hb hl => lv_istore hC.1 hC.2.1 hd hl.has (hl.lt (i := 13) (by simp)) rfl (fun ls' h' => k p e R s m args below meth c A H locs cells slots ls' hC hW hb (hl.st1 (i := 13) (by simp) hp h'))
theorem V_astore_13 {a0 a1 a2 a3 a4 a5 a6 a7 a8 a9 a10 a11 a12 o : Option Value} {r : List (Option Value)} {x : Nat} (hd : decode M.2.1 pc = .ok (.astore 13, 2)) (hp : hv_ok a12 = true) (k : hv_V l D M X rm Q bc bs h nx (pc + 2) (a0 :: a1 :: a2 :: a3 :: a4 :: a5 :: a6 :: a7 :: a8 :: a9 :: a10 :: a11 :: a12 :: some (.ref x) :: r) st) : hv_V l D M X rm Q bc bs h nx pc (a0 :: a1 :: a2 :: a3 :: a4 :: a5 :: a6 :: a7 :: a8 :: a9 :: a10 :: a11 :: a12 :: o :: r) (.ref x :: st) := fun p e R s m args below meth c A H locs cells slots ls hC hW hb hl => lv_astore hC.1 hC.2.1 hd hl.has (hl.lt (i := 13) (by simp)) rfl (fun ls' h' => k p e R s m args below meth c A H locs cells slots ls' hC hW hb (hl.st1 (i := 13) (by simp) hp h'))
theorem V_lstore_13 {a0 a1 a2 a3 a4 a5 a6 a7 a8 a9 a10 a11 a12 o o2 : Option Value} {r : List (Option Value)} {x : Int64} (hd : decode M.2.1 pc = .ok (.lstore 13, 2)) (hp : hv_ok a12 = true) (k : hv_V l D M X rm Q bc bs h nx (pc + 2) (a0 :: a1 :: a2 :: a3 :: a4 :: a5 :: a6 :: a7 :: a8 :: a9 :: a10 :: a11 :: a12 :: some (.long x) :: none :: r) st) : hv_V l D M X rm Q bc bs h nx pc (a0 :: a1 :: a2 :: a3 :: a4 :: a5 :: a6 :: a7 :: a8 :: a9 :: a10 :: a11 :: a12 :: o :: o2 :: r) (.long x :: st) := fun p e R s m args below meth c A H locs cells slots ls hC hW hb hl => lv_lstore hC.1 hC.2.1 hd hl.has (hl.lt (i := 13 + 1) (by simp)) rfl (fun ls' h' => k p e R s m args below meth c A H locs cells slots ls' hC hW hb (hl.st2 (i := 13) (by simp) hp h'))
theorem V_iinc_13 {a0 a1 a2 a3 a4 a5 a6 a7 a8 a9 a10 a11 a12 : Option Value} {r : List (Option Value)} {x : Int32} {n : Int} (v : Int32) (hd : decode M.2.1 pc = .ok (.iinc 13 n, 3)) (hv : Int32.ofInt n = v) (hp : hv_ok a12 = true) (k : hv_V l D M X rm Q bc bs h nx (pc + 3) (a0 :: a1 :: a2 :: a3 :: a4 :: a5 :: a6 :: a7 :: a8 :: a9 :: a10 :: a11 :: a12 :: some (.int (x + v)) :: r) st) : hv_V l D M X rm Q bc bs h nx pc (a0 :: a1 :: a2 :: a3 :: a4 :: a5 :: a6 :: a7 :: a8 :: a9 :: a10 :: a11 :: a12 :: some (.int x) :: r) st := fun p e R s m args below meth c A H locs cells slots ls hC hW hb hl => lv_iinc (k := 0) hC.1 hC.2.1 hd (hl.has1 (i := 13) (v := .int x) rfl) rfl (by rw [hv]) (hl.lt (i := 13) (by simp)) rfl (fun ls' h' => k p e R s m args below meth c A H locs cells slots ls' hC hW hb (hl.st1' (i := 13) (by simp) hp h'))
theorem V_drop_13 {a0 a1 a2 a3 a4 a5 a6 a7 a8 a9 a10 a11 a12 o : Option Value} {r : List (Option Value)}  (k : hv_V l D M X rm Q bc bs h nx pc (a0 :: a1 :: a2 :: a3 :: a4 :: a5 :: a6 :: a7 :: a8 :: a9 :: a10 :: a11 :: a12 :: none :: r) st) : hv_V l D M X rm Q bc bs h nx pc (a0 :: a1 :: a2 :: a3 :: a4 :: a5 :: a6 :: a7 :: a8 :: a9 :: a10 :: a11 :: a12 :: o :: r) st := fun p e R s m args below meth c A H locs cells slots ls hC hW hb hl => k p e R s m args below meth c A H locs cells slots ls hC hW hb (hl.drop (i := 13))
theorem V_istore_14 {a0 a1 a2 a3 a4 a5 a6 a7 a8 a9 a10 a11 a12 a13 o : Option Value} {r : List (Option Value)} {x : Int32} (hd : decode M.2.1 pc = .ok (.istore 14, 2)) (hp : hv_ok a13 = true) (k : hv_V l D M X rm Q bc bs h nx (pc + 2) (a0 :: a1 :: a2 :: a3 :: a4 :: a5 :: a6 :: a7 :: a8 :: a9 :: a10 :: a11 :: a12 :: a13 :: some (.int x) :: r) st) : hv_V l D M X rm Q bc bs h nx pc (a0 :: a1 :: a2 :: a3 :: a4 :: a5 :: a6 :: a7 :: a8 :: a9 :: a10 :: a11 :: a12 :: a13 :: o :: r) (.int x :: st) := fun p e R s m args below meth c A H locs cells slots ls hC hW hb hl => lv_istore hC.1 hC.2.1 hd hl.has (hl.lt (i := 14) (by simp)) rfl (fun ls' h' => k p e R s m args below meth c A H locs cells slots ls' hC hW hb (hl.st1 (i := 14) (by simp) hp h'))
theorem V_astore_14 {a0 a1 a2 a3 a4 a5 a6 a7 a8 a9 a10 a11 a12 a13 o : Option Value} {r : List (Option Value)} {x : Nat} (hd : decode M.2.1 pc = .ok (.astore 14, 2)) (hp : hv_ok a13 = true) (k : hv_V l D M X rm Q bc bs h nx (pc + 2) (a0 :: a1 :: a2 :: a3 :: a4 :: a5 :: a6 :: a7 :: a8 :: a9 :: a10 :: a11 :: a12 :: a13 :: some (.ref x) :: r) st) : hv_V l D M X rm Q bc bs h nx pc (a0 :: a1 :: a2 :: a3 :: a4 :: a5 :: a6 :: a7 :: a8 :: a9 :: a10 :: a11 :: a12 :: a13 :: o :: r) (.ref x :: st) := fun p e R s m args below meth c A H locs cells slots ls hC hW hb hl => lv_astore hC.1 hC.2.1 hd hl.has (hl.lt (i := 14) (by simp)) rfl (fun ls' h' => k p e R s m args below meth c A H locs cells slots ls' hC hW hb (hl.st1 (i := 14) (by simp) hp h'))
theorem V_lstore_14 {a0 a1 a2 a3 a4 a5 a6 a7 a8 a9 a10 a11 a12 a13 o o2 : Option Value} {r : List (Option Value)} {x : Int64} (hd : decode M.2.1 pc = .ok (.lstore 14, 2)) (hp : hv_ok a13 = true) (k : hv_V l D M X rm Q bc bs h nx (pc + 2) (a0 :: a1 :: a2 :: a3 :: a4 :: a5 :: a6 :: a7 :: a8 :: a9 :: a10 :: a11 :: a12 :: a13 :: some (.long x) :: none :: r) st) : hv_V l D M X rm Q bc bs h nx pc (a0 :: a1 :: a2 :: a3 :: a4 :: a5 :: a6 :: a7 :: a8 :: a9 :: a10 :: a11 :: a12 :: a13 :: o :: o2 :: r) (.long x :: st) := fun p e R s m args below meth c A H locs cells slots ls hC hW hb hl => lv_lstore hC.1 hC.2.1 hd hl.has (hl.lt (i := 14 + 1) (by simp)) rfl (fun ls' h' => k p e R s m args below meth c A H locs cells slots ls' hC hW hb (hl.st2 (i := 14) (by simp) hp h'))
theorem V_iinc_14 {a0 a1 a2 a3 a4 a5 a6 a7 a8 a9 a10 a11 a12 a13 : Option Value} {r : List (Option Value)} {x : Int32} {n : Int} (v : Int32) (hd : decode M.2.1 pc = .ok (.iinc 14 n, 3)) (hv : Int32.ofInt n = v) (hp : hv_ok a13 = true) (k : hv_V l D M X rm Q bc bs h nx (pc + 3) (a0 :: a1 :: a2 :: a3 :: a4 :: a5 :: a6 :: a7 :: a8 :: a9 :: a10 :: a11 :: a12 :: a13 :: some (.int (x + v)) :: r) st) : hv_V l D M X rm Q bc bs h nx pc (a0 :: a1 :: a2 :: a3 :: a4 :: a5 :: a6 :: a7 :: a8 :: a9 :: a10 :: a11 :: a12 :: a13 :: some (.int x) :: r) st := fun p e R s m args below meth c A H locs cells slots ls hC hW hb hl => lv_iinc (k := 0) hC.1 hC.2.1 hd (hl.has1 (i := 14) (v := .int x) rfl) rfl (by rw [hv]) (hl.lt (i := 14) (by simp)) rfl (fun ls' h' => k p e R s m args below meth c A H locs cells slots ls' hC hW hb (hl.st1' (i := 14) (by simp) hp h'))
theorem V_drop_14 {a0 a1 a2 a3 a4 a5 a6 a7 a8 a9 a10 a11 a12 a13 o : Option Value} {r : List (Option Value)}  (k : hv_V l D M X rm Q bc bs h nx pc (a0 :: a1 :: a2 :: a3 :: a4 :: a5 :: a6 :: a7 :: a8 :: a9 :: a10 :: a11 :: a12 :: a13 :: none :: r) st) : hv_V l D M X rm Q bc bs h nx pc (a0 :: a1 :: a2 :: a3 :: a4 :: a5 :: a6 :: a7 :: a8 :: a9 :: a10 :: a11 :: a12 :: a13 :: o :: r) st := fun p e R s m args below meth c A H locs cells slots ls hC hW hb hl => k p e R s m args below meth c A H locs cells slots ls hC hW hb (hl.drop (i := 14))
theorem V_istore_15 {a0 a1 a2 a3 a4 a5 a6 a7 a8 a9 a10 a11 a12 a13 a14 o : Option Value} {r : List (Option Value)} {x : Int32} (hd : decode M.2.1 pc = .ok (.istore 15, 2)) (hp : hv_ok a14 = true) (k : hv_V l D M X rm Q bc bs h nx (pc + 2) (a0 :: a1 :: a2 :: a3 :: a4 :: a5 :: a6 :: a7 :: a8 :: a9 :: a10 :: a11 :: a12 :: a13 :: a14 :: some (.int x) :: r) st) : hv_V l D M X rm Q bc bs h nx pc (a0 :: a1 :: a2 :: a3 :: a4 :: a5 :: a6 :: a7 :: a8 :: a9 :: a10 :: a11 :: a12 :: a13 :: a14 :: o :: r) (.int x :: st) := fun p e R s m args below meth c A H locs cells slots ls hC hW hb hl => lv_istore hC.1 hC.2.1 hd hl.has (hl.lt (i := 15) (by simp)) rfl (fun ls' h' => k p e R s m args below meth c A H locs cells slots ls' hC hW hb (hl.st1 (i := 15) (by simp) hp h'))
theorem V_astore_15 {a0 a1 a2 a3 a4 a5 a6 a7 a8 a9 a10 a11 a12 a13 a14 o : Option Value} {r : List (Option Value)} {x : Nat} (hd : decode M.2.1 pc = .ok (.astore 15, 2)) (hp : hv_ok a14 = true) (k : hv_V l D M X rm Q bc bs h nx (pc + 2) (a0 :: a1 :: a2 :: a3 :: a4 :: a5 :: a6 :: a7 :: a8 :: a9 :: a10 :: a11 :: a12 :: a13 :: a14 :: some (.ref x) :: r) st) : hv_V l D M X rm Q bc bs h nx pc (a0 :: a1 :: a2 :: a3 :: a4 :: a5 :: a6 :: a7 :: a8 :: a9 :: a10 :: a11 :: a12 :: a13 :: a14 :: o :: r) (.ref x :: st) := fun p e R s m args below meth c A H locs cells slots ls hC hW hb hl => lv_astore hC.1 hC.2.1 hd hl.has (hl.lt (i := 15) (by simp)) rfl (fun ls' h' => k p e R s m args below meth c A H locs cells slots ls' hC hW hb (hl.st1 (i := 15) (by simp) hp h'))
theorem V_lstore_15 {a0 a1 a2 a3 a4 a5 a6 a7 a8 a9 a10 a11 a12 a13 a14 o o2 : Option Value} {r : List (Option Value)} {x : Int64} (hd : decode M.2.1 pc = .ok (.lstore 15, 2)) (hp : hv_ok a14 = true) (k : hv_V l D M X rm Q bc bs h nx (pc + 2) (a0 :: a1 :: a2 :: a3 :: a4 :: a5 :: a6 :: a7 :: a8 :: a9 :: a10 :: a11 :: a12 :: a13 :: a14 :: some (.long x) :: none :: r) st) : hv_V l D M X rm Q bc bs h nx pc (a0 :: a1 :: a2 :: a3 :: a4 :: a5 :: a6 :: a7 :: a8 :: a9 :: a10 :: a11 :: a12 :: a13 :: a14 :: o :: o2 :: r) (.long x :: st) := fun p e R s m args below meth c A H locs cells slots ls hC hW hb hl => lv_lstore hC.1 hC.2.1 hd hl.has (hl.lt (i := 15 + 1) (by simp)) rfl (fun ls' h' => k p e R s m args below meth c A H locs cells slots ls' hC hW hb (hl.st2 (i := 15) (by simp) hp h'))
theorem V_iinc_15 {a0 a1 a2 a3 a4 a5 a6 a7 a8 a9 a10 a11 a12 a13 a14 : Option Value} {r : List (Option Value)} {x : Int32} {n : Int} (v : Int32) (hd : decode M.2.1 pc = .ok (.iinc 15 n, 3)) (hv : Int32.ofInt n = v) (hp : hv_ok a14 = true) (k : hv_V l D M X rm Q bc bs h nx (pc + 3) (a0 :: a1 :: a2 :: a3 :: a4 :: a5 :: a6 :: a7 :: a8 :: a9 :: a10 :: a11 :: a12 :: a13 :: a14 :: some (.int (x + v)) :: r) st) : hv_V l D M X rm Q bc bs h nx pc (a0 :: a1 :: a2 :: a3 :: a4 :: a5 :: a6 :: a7 :: a8 :: a9 :: a10 :: a11 :: a12 :: a13 :: a14 :: some (.int x) :: r) st := fun p e R s m args below meth c A H locs cells slots ls hC hW hb hl => lv_iinc (k := 0) hC.1 hC.2.1 hd (hl.has1 (i := 15) (v := .int x) rfl) rfl (by rw [hv]) (hl.lt (i := 15) (by simp)) rfl (fun ls' h' => k p e R s m args below meth c A H locs cells slots ls' hC hW hb (hl.st1' (i := 15) (by simp) hp h'))
theorem V_drop_15 {a0 a1 a2 a3 a4 a5 a6 a7 a8 a9 a10 a11 a12 a13 a14 o : Option Value} {r : List (Option Value)}  (k : hv_V l D M X rm Q bc bs h nx pc (a0 :: a1 :: a2 :: a3 :: a4 :: a5 :: a6 :: a7 :: a8 :: a9 :: a10 :: a11 :: a12 :: a13 :: a14 :: none :: r) st) : hv_V l D M X rm Q bc bs h nx pc (a0 :: a1 :: a2 :: a3 :: a4 :: a5 :: a6 :: a7 :: a8 :: a9 :: a10 :: a11 :: a12 :: a13 :: a14 :: o :: r) st := fun p e R s m args below meth c A H locs cells slots ls hC hW hb hl => k p e R s m args below meth c A H locs cells slots ls hC hW hb (hl.drop (i := 15))
theorem V_istore_16 {a0 a1 a2 a3 a4 a5 a6 a7 a8 a9 a10 a11 a12 a13 a14 a15 o : Option Value} {r : List (Option Value)} {x : Int32} (hd : decode M.2.1 pc = .ok (.istore 16, 2)) (hp : hv_ok a15 = true) (k : hv_V l D M X rm Q bc bs h nx (pc + 2) (a0 :: a1 :: a2 :: a3 :: a4 :: a5 :: a6 :: a7 :: a8 :: a9 :: a10 :: a11 :: a12 :: a13 :: a14 :: a15 :: some (.int x) :: r) st) : hv_V l D M X rm Q bc bs h nx pc (a0 :: a1 :: a2 :: a3 :: a4 :: a5 :: a6 :: a7 :: a8 :: a9 :: a10 :: a11 :: a12 :: a13 :: a14 :: a15 :: o :: r) (.int x :: st) := fun p e R s m args below meth c A H locs cells slots ls hC hW hb hl => lv_istore hC.1 hC.2.1 hd hl.has (hl.lt (i := 16) (by simp)) rfl (fun ls' h' => k p e R s m args below meth c A H locs cells slots ls' hC hW hb (hl.st1 (i := 16) (by simp) hp h'))
theorem V_astore_16 {a0 a1 a2 a3 a4 a5 a6 a7 a8 a9 a10 a11 a12 a13 a14 a15 o : Option Value} {r : List (Option Value)} {x : Nat} (hd : decode M.2.1 pc = .ok (.astore 16, 2)) (hp : hv_ok a15 = true) (k : hv_V l D M X rm Q bc bs h nx (pc + 2) (a0 :: a1 :: a2 :: a3 :: a4 :: a5 :: a6 :: a7 :: a8 :: a9 :: a10 :: a11 :: a12 :: a13 :: a14 :: a15 :: some (.ref x) :: r) st) : hv_V l D M X rm Q bc bs h nx pc (a0 :: a1 :: a2 :: a3 :: a4 :: a5 :: a6 :: a7 :: a8 :: a9 :: a10 :: a11 :: a12 :: a13 :: a14 :: a15 :: o :: r) (.ref x :: st) := fun p e R s m args below meth c A H locs cells slots ls hC hW hb hl => lv_astore hC.1 hC.2.1 hd hl.has (hl.lt (i := 16) (by simp)) rfl (fun ls' h' => k p e R s m args below meth c A H locs cells slots ls' hC hW hb (hl.st1 (i := 16) (by simp) hp h'))
theorem V_lstore_16 {a0 a1 a2 a3 a4 a5 a6 a7 a8 a9 a10 a11 a12 a13 a14 a15 o o2 : Option Value} {r : List (Option Value)} {x : Int64} (hd : decode M.2.1 pc = .ok (.lstore 16, 2)) (hp : hv_ok a15 = true) (k : hv_V l D M X rm Q bc bs h nx (pc + 2) (a0 :: a1 :: a2 :: a3 :: a4 :: a5 :: a6 :: a7 :: a8 :: a9 :: a10 :: a11 :: a12 :: a13 :: a14 :: a15 :: some (.long x) :: none :: r) st) : hv_V l D M X rm Q bc bs h nx pc (a0 :: a1 :: a2 :: a3 :: a4 :: a5 :: a6 :: a7 :: a8 :: a9 :: a10 :: a11 :: a12 :: a13 :: a14 :: a15 :: o :: o2 :: r) (.long x :: st) := fun p e R s m args below meth c A H locs cells slots ls hC hW hb hl => lv_lstore hC.1 hC.2.1 hd hl.has (hl.lt (i := 16 + 1) (by simp)) rfl (fun ls' h' => k p e R s m args below meth c A H locs cells slots ls' hC hW hb (hl.st2 (i := 16) (by simp) hp h'))
theorem V_iinc_16 {a0 a1 a2 a3 a4 a5 a6 a7 a8 a9 a10 a11 a12 a13 a14 a15 : Option Value} {r : List (Option Value)} {x : Int32} {n : Int} (v : Int32) (hd : decode M.2.1 pc = .ok (.iinc 16 n, 3)) (hv : Int32.ofInt n = v) (hp : hv_ok a15 = true) (k : hv_V l D M X rm Q bc bs h nx (pc + 3) (a0 :: a1 :: a2 :: a3 :: a4 :: a5 :: a6 :: a7 :: a8 :: a9 :: a10 :: a11 :: a12 :: a13 :: a14 :: a15 :: some (.int (x + v)) :: r) st) : hv_V l D M X rm Q bc bs h nx pc (a0 :: a1 :: a2 :: a3 :: a4 :: a5 :: a6 :: a7 :: a8 :: a9 :: a10 :: a11 :: a12 :: a13 :: a14 :: a15 :: some (.int x) :: r) st := fun p e R s m args below meth c A H locs cells slots ls hC hW hb hl => lv_iinc (k := 0) hC.1 hC.2.1 hd (hl.has1 (i := 16) (v := .int x) rfl) rfl (by rw [hv]) (hl.lt (i := 16) (by simp)) rfl (fun ls' h' => k p e R s m args below meth c A H locs cells slots ls' hC hW hb (hl.st1' (i := 16) (by simp) hp h'))
theorem V_drop_16 {a0 a1 a2 a3 a4 a5 a6 a7 a8 a9 a10 a11 a12 a13 a14 a15 o : Option Value} {r : List (Option Value)}  (k : hv_V l D M X rm Q bc bs h nx pc (a0 :: a1 :: a2 :: a3 :: a4 :: a5 :: a6 :: a7 :: a8 :: a9 :: a10 :: a11 :: a12 :: a13 :: a14 :: a15 :: none :: r) st) : hv_V l D M X rm Q bc bs h nx pc (a0 :: a1 :: a2 :: a3 :: a4 :: a5 :: a6 :: a7 :: a8 :: a9 :: a10 :: a11 :: a12 :: a13 :: a14 :: a15 :: o :: r) st := fun p e R s m args below meth c A H locs cells slots ls hC hW hb hl => k p e R s m args below meth c A H locs cells slots ls hC hW hb (hl.drop (i := 16))
theorem V_istore_17 {a0 a1 a2 a3 a4 a5 a6 a7 a8 a9 a10 a11 a12 a13 a14 a15 a16 o : Option Value} {r : List (Option Value)} {x : Int32} (hd : decode M.2.1 pc = .ok (.istore 17, 2)) (hp : hv_ok a16 = true) (k : hv_V l D M X rm Q bc bs h nx (pc + 2) (a0 :: a1 :: a2 :: a3 :: a4 :: a5 :: a6 :: a7 :: a8 :: a9 :: a10 :: a11 :: a12 :: a13 :: a14 :: a15 :: a16 :: some (.int x) :: r) st) : hv_V l D M X rm Q bc bs h nx pc (a0 :: a1 :: a2 :: a3 :: a4 :: a5 :: a6 :: a7 :: a8 :: a9 :: a10 :: a11 :: a12 :: a13 :: a14 :: a15 :: a16 :: o :: r) (.int x :: st) := fun p e R s m args below meth c A H locs cells slots ls hC hW hb hl => lv_istore hC.1 hC.2.1 hd hl.has (hl.lt (i := 17) (by simp)) rfl (fun ls' h' => k p e R s m args below meth c A H locs cells slots ls' hC hW hb (hl.st1 (i := 17) (by simp) hp h'))
theorem V_astore_17 {a0 a1 a2 a3 a4 a5 a6 a7 a8 a9 a10 a11 a12 a13 a14 a15 a16 o : Option Value} {r : List (Option Value)} {x : Nat} (hd : decode M.2.1 pc = .ok (.astore 17, 2)) (hp : hv_ok a16 = true) (k : hv_V l D M X rm Q bc bs h nx (pc + 2) (a0 :: a1 :: a2 :: a3 :: a4 :: a5 :: a6 :: a7 :: a8 :: a9 :: a10 :: a11 :: a12 :: a13 :: a14 :: a15 :: a16 :: some (.ref x) :: r) st) : hv_V l D M X rm Q bc bs h nx pc (a0 :: a1 :: a2 :: a3 :: a4 :: a5 :: a6 :: a7 :: a8 :: a9 :: a10 :: a11 :: a12 :: a13 :: a14 :: a15 :: a16 :: o :: r) (.ref x :: st) := fun p e R s m args below meth c A H locs cells slots ls hC hW hb hl => lv_astore hC.1 hC.2.1 hd hl.has (hl.lt (i := 17) (by simp)) rfl (fun ls' h' => k p e R s m args below meth c A H locs cells slots ls' hC hW hb (hl.st1 (i := 17) (by simp) hp h'))
theorem V_lstore_17 {a0 a1 a2 a3 a4 a5 a6 a7 a8 a9 a10 a11 a12 a13 a14 a15 a16 o o2 : Option Value} {r : List (Option Value)} {x : Int64} (hd : decode M.2.1 pc = .ok (.lstore 17, 2)) (hp : hv_ok a16 = true) (k : hv_V l D M X rm Q bc bs h nx (pc + 2) (a0 :: a1 :: a2 :: a3 :: a4 :: a5 :: a6 :: a7 :: a8 :: a9 :: a10 :: a11 :: a12 :: a13 :: a14 :: a15 :: a16 :: some (.long x) :: none :: r) st) : hv_V l D M X rm Q bc bs h nx pc (a0 :: a1 :: a2 :: a3 :: a4 :: a5 :: a6 :: a7 :: a8 :: a9 :: a10 :: a11 :: a12 :: a13 :: a14 :: a15 :: a16 :: o :: o2 :: r) (.long x :: st) := fun p e R s m args below meth c A H locs cells slots ls hC hW hb hl => lv_lstore hC.1 hC.2.1 hd hl.has (hl.lt (i := 17 + 1) (by simp)) rfl (fun ls' h' => k p e R s m args below meth c A H locs cells slots ls' hC hW hb (hl.st2 (i := 17) (by simp) hp h'))
theorem V_iinc_17 {a0 a1 a2 a3 a4 a5 a6 a7 a8 a9 a10 a11 a12 a13 a14 a15 a16 : Option Value} {r : List (Option Value)} {x : Int32} {n : Int} (v : Int32) (hd : decode M.2.1 pc = .ok (.iinc 17 n, 3)) (hv : Int32.ofInt n = v) (hp : hv_ok a16 = true) (k : hv_V l D M X rm Q bc bs h nx (pc + 3) (a0 :: a1 :: a2 :: a3 :: a4 :: a5 :: a6 :: a7 :: a8 :: a9 :: a10 :: a11 :: a12 :: a13 :: a14 :: a15 :: a16 :: some (.int (x + v)) :: r) st) : hv_V l D M X rm Q bc bs h nx pc (a0 :: a1 :: a2 :: a3 :: a4 :: a5 :: a6 :: a7 :: a8 :: a9 :: a10 :: a11 :: a12 :: a13 :: a14 :: a15 :: a16 :: some (.int x) :: r) st := fun p e R s m args below meth c A H locs cells slots ls hC hW hb hl => lv_iinc (k := 0) hC.1 hC.2.1 hd (hl.has1 (i := 17) (v := .int x) rfl) rfl (by rw [hv]) (hl.lt (i := 17) (by simp)) rfl (fun ls' h' => k p e R s m args below meth c A H locs cells slots ls' hC hW hb (hl.st1' (i := 17) (by simp) hp h'))
theorem V_drop_17 {a0 a1 a2 a3 a4 a5 a6 a7 a8 a9 a10 a11 a12 a13 a14 a15 a16 o : Option Value} {r : List (Option Value)}  (k : hv_V l D M X rm Q bc bs h nx pc (a0 :: a1 :: a2 :: a3 :: a4 :: a5 :: a6 :: a7 :: a8 :: a9 :: a10 :: a11 :: a12 :: a13 :: a14 :: a15 :: a16 :: none :: r) st) : hv_V l D M X rm Q bc bs h nx pc (a0 :: a1 :: a2 :: a3 :: a4 :: a5 :: a6 :: a7 :: a8 :: a9 :: a10 :: a11 :: a12 :: a13 :: a14 :: a15 :: a16 :: o :: r) st := fun p e R s m args below meth c A H locs cells slots ls hC hW hb hl => k p e R s m args below meth c A H locs cells slots ls hC hW hb (hl.drop (i := 17))
theorem V_istore_18 {a0 a1 a2 a3 a4 a5 a6 a7 a8 a9 a10 a11 a12 a13 a14 a15 a16 a17 o : Option Value} {r : List (Option Value)} {x : Int32} (hd : decode M.2.1 pc = .ok (.istore 18, 2)) (hp : hv_ok a17 = true) (k : hv_V l D M X rm Q bc bs h nx (pc + 2) (a0 :: a1 :: a2 :: a3 :: a4 :: a5 :: a6 :: a7 :: a8 :: a9 :: a10 :: a11 :: a12 :: a13 :: a14 :: a15 :: a16 :: a17 :: some (.int x) :: r) st) : hv_V l D M X rm Q bc bs h nx pc (a0 :: a1 :: a2 :: a3 :: a4 :: a5 :: a6 :: a7 :: a8 :: a9 :: a10 :: a11 :: a12 :: a13 :: a14 :: a15 :: a16 :: a17 :: o :: r) (.int x :: st) := fun p e R s m args below meth c A H locs cells slots ls hC hW hb hl => lv_istore hC.1 hC.2.1 hd hl.has (hl.lt (i := 18) (by simp)) rfl (fun ls' h' => k p e R s m args below meth c A H locs cells slots ls' hC hW hb (hl.st1 (i := 18) (by simp) hp h'))
theorem V_astore_18 {a0 a1 a2 a3 a4 a5 a6 a7 a8 a9 a10 a11 a12 a13 a14 a15 a16 a17 o : Option Value} {r : List (Option Value)} {x : Nat} (hd : decode M.2.1 pc = .ok (.astore 18, 2)) (hp : hv_ok a17 = true) (k : hv_V l D M X rm Q bc bs h nx (pc + 2) (a0 :: a1 :: a2 :: a3 :: a4 :: a5 :: a6 :: a7 :: a8 :: a9 :: a10 :: a11 :: a12 :: a13 :: a14 :: a15 :: a16 :: a17 :: some (.ref x) :: r) st) : hv_V l D M X rm Q bc bs h nx pc (a0 :: a1 :: a2 :: a3 :: a4 :: a5 :: a6 :: a7 :: a8 :: a9 :: a10 :: a11 :: a12 :: a13 :: a14 :: a15 :: a16 :: a17 :: o :: r) (.ref x :: st) := fun p e R s m args below meth c A H locs cells slots ls hC hW hb hl => lv_astore hC.1 hC.2.1 hd hl.has (hl.lt (i := 18) (by simp)) rfl (fun ls' h' => k p e R s m args below meth c A H locs cells slots ls' hC hW hb (hl.st1 (i := 18) (by simp) hp h'))
theorem V_lstore_18 {a0 a1 a2 a3 a4 a5 a6 a7 a8 a9 a10 a11 a12 a13 a14 a15 a16 a17 o o2 : Option Value} {r : List (Option Value)} {x : Int64} (hd : decode M.2.1 pc = .ok (.lstore 18, 2)) (hp : hv_ok a17 = true) (k : hv_V l D M X rm Q bc bs h nx (pc + 2) (a0 :: a1 :: a2 :: a3 :: a4 :: a5 :: a6 :: a7 :: a8 :: a9 :: a10 :: a11 :: a12 :: a13 :: a14 :: a15 :: a16 :: a17 :: some (.long x) :: none :: r) st) : hv_V l D M X rm Q bc bs h nx pc (a0 :: a1 :: a2 :: a3 :: a4 :: a5 :: a6 :: a7 :: a8 :: a9 :: a10 :: a11 :: a12 :: a13 :: a14 :: a15 :: a16 :: a17 :: o :: o2 :: r) (.long x :: st) := fun p e R s m args below meth c A H locs cells slots ls hC hW hb hl => lv_lstore hC.1 hC.2.1 hd hl.has (hl.lt (i := 18 + 1) (by simp)) rfl (fun ls' h' => k p e R s m args below meth c A H locs cells slots ls' hC hW hb (hl.st2 (i := 18) (by simp) hp h'))
theorem V_iinc_18 {a0 a1 a2 a3 a4 a5 a6 a7 a8 a9 a10 a11 a12 a13 a14 a15 a16 a17 : Option Value} {r : List (Option Value)} {x : Int32} {n : Int} (v : Int32) (hd : decode M.2.1 pc = .ok (.iinc 18 n, 3)) (hv : Int32.ofInt n = v) (hp : hv_ok a17 = true) (k : hv_V l D M X rm Q bc bs h nx (pc + 3) (a0 :: a1 :: a2 :: a3 :: a4 :: a5 :: a6 :: a7 :: a8 :: a9 :: a10 :: a11 :: a12 :: a13 :: a14 :: a15 :: a16 :: a17 :: some (.int (x + v)) :: r) st) : hv_V l D M X rm Q bc bs h nx pc (a0 :: a1 :: a2 :: a3 :: a4 :: a5 :: a6 :: a7 :: a8 :: a9 :: a10 :: a11 :: a12 :: a13 :: a14 :: a15 :: a16 :: a17 :: some (.int x) :: r) st := fun p e R s m args below meth c A H locs cells slots ls hC hW hb hl => lv_iinc (k := 0) hC.1 hC.2.1 hd (hl.has1 (i := 18) (v := .int x) rfl) rfl (by rw [hv]) (hl.lt (i := 18) (by simp)) rfl (fun ls' h' => k p e R s m args below meth c A H locs cells slots ls' hC hW hb (hl.st1' (i := 18) (by simp) hp h'))
theorem V_drop_18 {a0 a1 a2 a3 a4 a5 a6 a7 a8 a9 a10 a11 a12 a13 a14 a15 a16 a17 o : Option Value} {r : List (Option Value)}  (k : hv_V l D M X rm Q bc bs h nx pc (a0 :: a1 :: a2 :: a3 :: a4 :: a5 :: a6 :: a7 :: a8 :: a9 :: a10 :: a11 :: a12 :: a13 :: a14 :: a15 :: a16 :: a17 :: none :: r) st) : hv_V l D M X rm Q bc bs h nx pc (a0 :: a1 :: a2 :: a3 :: a4 :: a5 :: a6 :: a7 :: a8 :: a9 :: a10 :: a11 :: a12 :: a13 :: a14 :: a15 :: a16 :: a17 :: o :: r) st := fun p e R s m args below meth c A H locs cells slots ls hC hW hb hl => k p e R s m args below meth c A H locs cells slots ls hC hW hb (hl.drop (i := 18))
theorem V_istore_19 {a0 a1 a2 a3 a4 a5 a6 a7 a8 a9 a10 a11 a12 a13 a14 a15 a16 a17 a18 o : Option Value} {r : List (Option Value)} {x : Int32} (hd : decode M.2.1 pc = .ok (.istore 19, 2)) (hp : hv_ok a18 = true) (k : hv_V l D M X rm Q bc bs h nx (pc + 2) (a0 :: a1 :: a2 :: a3 :: a4 :: a5 :: a6 :: a7 :: a8 :: a9 :: a10 :: a11 :: a12 :: a13 :: a14 :: a15 :: a16 :: a17 :: a18 :: some (.int x) :: r) st) : hv_V l D M X rm Q bc bs h nx pc (a0 :: a1 :: a2 :: a3 :: a4 :: a5 :: a6 :: a7 :: a8 :: a9 :: a10 :: a11 :: a12 :: a13 :: a14 :: a15 :: a16 :: a17 :: a18 :: o :: r) (.int x :: st) := fun p e R s m args below meth c A H locs cells slots ls hC hW hb hl => lv_istore hC.1 hC.2.1 hd hl.has (hl.lt (i := 19) (by simp)) rfl (fun ls' h' => k p e R s m args below meth c A H locs cells slots ls' hC hW hb (hl.st1 (i := 19) (by simp) hp h'))
theorem V_astore_19 {a0 a1 a2 a3 a4 a5 a6 a7 a8 a9 a10 a11 a12 a13 a14 a15 a16 a17 a18 o : Option Value} {r : List (Option Value)} {x : Nat} (hd : decode M.2.1 pc = .ok (.astore 19, 2)) (hp : hv_ok a18 = true) (k : hv_V l D M X rm Q bc bs h nx (pc + 2) (a0 :: a1 :: a2 :: a3 :: a4 :: a5 :: a6 :: a7 :: a8 :: a9 :: a10 :: a11 :: a12 :: a13 :: a14 :: a15 :: a16 :: a17 :: a18 :: some (.ref x) :: r) st) : hv_V l D M X rm Q bc bs h nx pc (a0 :: a1 :: a2 :: a3 :: a4 :: a5 :: a6 :: a7 :: a8 :: a9 :: a10 :: a11 :: a12 :: a13 :: a14 :: a15 :: a16 :: a17 :: a18 :: o :: r) (.ref x :: st) := fun p e R s m args below meth c A H locs cells slots ls hC hW hb hl => lv_astore hC.1 hC.2.1 hd hl.has (hl.lt (i := 19) (by simp)) rfl (fun ls' h' => k p e R s m args below meth c A H locs cells slots ls' hC hW hb (hl.st1 (i := 19) (by simp) hp h'))
theorem V_lstore_19 {a0 a1 a2 a3 a4 a5 a6 a7 a8 a9 a10 a11 a12 a13 a14 a15 a16 a17 a18 o o2 : Option Value} {r : List (Option Value)} {x : Int64} (hd : decode M.2.1 pc = .ok (.lstore 19, 2)) (hp : hv_ok a18 = true) (k : hv_V l D M X rm Q bc bs h nx (pc + 2) (a0 :: a1 :: a2 :: a3 :: a4 :: a5 :: a6 :: a7 :: a8 :: a9 :: a10 :: a11 :: a12 :: a13 :: a14 :: a15 :: a16 :: a17 :: a18 :: some (.long x) :: none :: r) st) : hv_V l D M X rm Q bc bs h nx pc (a0 :: a1 :: a2 :: a3 :: a4 :: a5 :: a6 :: a7 :: a8 :: a9 :: a10 :: a11 :: a12 :: a13 :: a14 :: a15 :: a16 :: a17 :: a18 :: o :: o2 :: r) (.long x :: st) := fun p e R s m args below meth c A H locs cells slots ls hC hW hb hl => lv_lstore hC.1 hC.2.1 hd hl.has (hl.lt (i := 19 + 1) (by simp)) rfl (fun ls' h' => k p e R s m args below meth c A H locs cells slots ls' hC hW hb (hl.st2 (i := 19) (by simp) hp h'))
theorem V_iinc_19 {a0 a1 a2 a3 a4 a5 a6 a7 a8 a9 a10 a11 a12 a13 a14 a15 a16 a17 a18 : Option Value} {r : List (Option Value)} {x : Int32} {n : Int} (v : Int32) (hd : decode M.2.1 pc = .ok (.iinc 19 n, 3)) (hv : Int32.ofInt n = v) (hp : hv_ok a18 = true) (k : hv_V l D M X rm Q bc bs h nx (pc + 3) (a0 :: a1 :: a2 :: a3 :: a4 :: a5 :: a6 :: a7 :: a8 :: a9 :: a10 :: a11 :: a12 :: a13 :: a14 :: a15 :: a16 :: a17 :: a18 :: some (.int (x + v)) :: r) st) : hv_V l D M X rm Q bc bs h nx pc (a0 :: a1 :: a2 :: a3 :: a4 :: a5 :: a6 :: a7 :: a8 :: a9 :: a10 :: a11 :: a12 :: a13 :: a14 :: a15 :: a16 :: a17 :: a18 :: some (.int x) :: r) st := fun p e R s m args below meth c A H locs cells slots ls hC hW hb hl => lv_iinc (k := 0) hC.1 hC.2.1 hd (hl.has1 (i := 19) (v := .int x) rfl) rfl (by rw [hv]) (hl.lt (i := 19) (by simp)) rfl (fun ls' h' => k p e R s m args below meth c A H locs cells slots ls' hC hW hb (hl.st1' (i := 19) (by simp) hp h'))
theorem V_drop_19 {a0 a1 a2 a3 a4 a5 a6 a7 a8 a9 a10 a11 a12 a13 a14 a15 a16 a17 a18 o : Option Value} {r : List (Option Value)}  (k : hv_V l D M X rm Q bc bs h nx pc (a0 :: a1 :: a2 :: a3 :: a4 :: a5 :: a6 :: a7 :: a8 :: a9 :: a10 :: a11 :: a12 :: a13 :: a14 :: a15 :: a16 :: a17 :: a18 :: none :: r) st) : hv_V l D M X rm Q bc bs h nx pc (a0 :: a1 :: a2 :: a3 :: a4 :: a5 :: a6 :: a7 :: a8 :: a9 :: a10 :: a11 :: a12 :: a13 :: a14 :: a15 :: a16 :: a17 :: a18 :: o :: r) st := fun p e R s m args below meth c A H locs cells slots ls hC hW hb hl => k p e R s m args below meth c A H locs cells slots ls hC hW hb (hl.drop (i := 19))

end HVR
end
section
-- RULES of the heap: fields, arrays, what is made, returns, contracts, calls
theorem W.mono {p : Program} {l : Launch} {e : Env} {R : Room} {s : State} {m : MethodId} {args : Array Value} {below : List Frame} {meth : Method} {c : Code} {H : Heap} {locs : List Loc} {cells slots : Nat} {Q Q' : State → Prop} {g : JFrame} (h : ∀ t, Q t → Q' t) (k : W p l e R s m args below meth c H locs cells slots Q g) : W p l e R s m args below meth c H locs cells slots Q' g := by
  intro T hT X
  obtain ⟨t, a, b⟩ := k T hT X
  exact ⟨t, a, h t b⟩
/-- an index: the number j below n -/
def hv_ix (i : Int32) (n j : Nat) : Prop := i = nI j ∧ j < n ∧ n < 2 ^ 31
theorem hv_ix.in {i : Int32} {n j : Nat} (h : hv_ix i n j) : vp_in i n := by rw [h.1]; exact vp_in_nI h.2.1 h.2.2
theorem hv_ix.cl {i : Int32} {n j : Nat} (h : hv_ix i n j) : i.toNatClampNeg = j := by rw [h.1]; exact nI_clamp (Nat.lt_trans h.2.1 h.2.2)
section HVH
variable {l : Launch} {D : hv_D} {M : hv_M} {X : State → (Nat → Prop) → Prop} {rm : Room} {Q : hv_R → hv_P → Nat → Prop} {bc bs : Nat} {h : hv_P} {nx pc : Nat} {lv : List (Option Value)} {st : List Value}
theorem V_getfield {idx ci k a : Nat} {ty : FieldType} {fs : List Value} {v : Value} (hd : decode M.2.1 pc = .ok (.getfield idx, 3)) (hf : hv_fl M.1.cls idx ci k ty) (he : h a = some (eO ci fs)) (hv : fs[k]? = some v) (kk : hv_V l D M X rm Q bc bs h nx (pc + 3) lv (v :: st)) : hv_V l D M X rm Q bc bs h nx pc lv (.ref a :: st) := by
  intro p e R s m args below meth c A H locs cells slots ls hC hW hb hl
  obtain ⟨C, T, N, tt, ⟨h1, h3, h4, h5, h6⟩, h2, -, h7⟩ := hf
  rcases h7 with h7 | ⟨host, h7⟩
  · exact va_get (own := M.1.cls) (ref := C) hC.1 hC.2.1 hC.word h3 hC.own hC.K.va (hv_one hW.1 he) 0 rfl h1 k h2 (hC.word _ h7) (fun x hx => by rw [h6 k h2] at hx; exact hx) hv hd (kk p e R s m args below meth c A H locs cells slots ls hC hW hb hl)
  · exact va_getN (own := M.1.cls) (ref := C) (host := host) hC.1 hC.2.1 hC.word h3 hC.own hC.K.va (hv_one hW.1 he) 0 rfl h1 k h2 (va_Nw.use rfl (hC.K.2.2.1 _ h7)) (fun x hx => by rw [h6 k h2] at hx; exact hx) hv hd (kk p e R s m args below meth c A H locs cells slots ls hC hW hb hl)
theorem V_putfield {idx ci k a : Nat} {ty : FieldType} {fs : List Value} {v : Value} (hd : decode M.2.1 pc = .ok (.putfield idx, 3)) (hf : hv_fp M.1.cls M.1.name idx ci k ty) (he : h a = some (eO ci fs)) (hl0 : k < fs.length) (hn : narrow ty v = v) (hfit : fits ty v = true) (kk : hv_V l D M X rm Q bc bs (hv_up h a (eO ci (fs.set k v))) nx (pc + 3) lv st) : hv_V l D M X rm Q bc bs h nx pc lv (v :: .ref a :: st) := by
  intro p e R s m args below meth c A H locs cells slots ls hC hW hb hl
  obtain ⟨C, T, N, tt, ⟨hc, hin, hty, hnm, hdc⟩, hk, rfl, h7⟩ := hf
  have hts := hC.word
  have hK := hC.K.va
  have hown := hC.own
  have hap := va_apart (own := M.1.cls) hts hin tt hty hnm hK hc
  obtain ⟨r, h1, cell, q1, q2, q3, q4⟩ := hW.1 a _ he
  have hr : r = (C, T, N) := Option.some.inj (h1.symm.trans hc)
  subst hr
  obtain ⟨hS, hfc, kC, hkC, hkind⟩ := hK.1 ci _ hc
  obtain ⟨cf, kf, fi, f, hi, hsl⟩ := hS k hk
  have hlay := hts _ (hin _ (u_in_lay hk))
  unfold u_lay at hlay
  have hst := (u_facts hfc hkC (u_lays hts hin hk) hi).1
  have hi2 : s.fieldFound? C (T k).2.1 (T k).2.2.1 = some (cf, kf, fi, f) := by rw [← hdc k hk]; exact hi
  have fin : ∀ (H' : Heap) (j : Nat), H'[a]? = some (cell.setSlot f.slot v) → H'.size = H.size → (∀ q, q ≠ a → H'[q]? = H[q]?) → W p l e R s m args below meth c H' (locs ++ [⟨a, j⟩]) cells slots (hv_Z D Q below args s rm.cells rm.slots A) (F0 m (pc + 3) ls st) := by
    intro H' j e1 e2 e3
    rw [hsl] at e1
    exact kk p e R s m args below meth c A H' _ cells slots ls hC (hW.put he ⟨_, hc, t_OB.to (V := updV (vp_V fs) k v) ⟨_, e1, q2, q3, t_set q4 hap hk v⟩ (fun j _ => vp_updV_set hl0 v j)⟩ e2 e3) hb hl
  rcases h7 with ⟨hfin, h7⟩ | ⟨hfin, hmn, hco, h7⟩
  · rw [if_neg (by rw [hfin]; decide)] at hlay
    have h6 := u_store hfc hkC hkind hlay hi (hty k hk) hn hfit
    rcases h7 with h7 | ⟨host, h7⟩
    · exact W.putK hC.1 hC.2.1 (f := f) ⟨hown, hts _ h7, ⟨_, _, _, hi2⟩, hst⟩ (by rw [q2]; exact h6) q1 q3 (by rw [hsl]; exact k2_hasslot (q4 k hk)) rfl rfl hd fun H' e1 e2 e3 => fin H' _ e1 e2 e3
    · exact va_WputK hC.1 hC.2.1 (f := f) hown (va_Nw.use rfl (hC.K.2.2.1 _ h7)) hi2 hst (by rw [q2]; exact h6) q1 q3 (by rw [hsl]; exact k2_hasslot (q4 k hk)) rfl rfl hd fun H' e1 e2 e3 => fin H' _ e1 e2 e3
  · rw [if_pos hfin] at hlay
    have hcf : m.cls = cf := by
      obtain ⟨_, _, c', _, _, _, -, -, hf', -, -, -, hown2, -⟩ := Cond.laysFinal_spec hlay
      have e1 : c' = cf := by have := hi.symm.trans hf'; simp at this; exact this.1.symm
      rw [hdc k hk, hco] at hown2
      rw [← e1]; exact Option.some.inj (hown.symm.trans hown2)
    have h6 := u_fits hfc hkC hkind (Or.inr hlay) hi (hty k hk) hn hfit
    exact W.putFinK hC.1 hC.2.1 hown (hts _ h7) hi2 hst hcf (hC.name.trans hmn) (by rw [q2]; exact h6) q1 q3 (by rw [hsl]; exact k2_hasslot (q4 k hk)) rfl rfl hd fun H' e1 e2 e3 => fin H' _ e1 e2 e3
theorem V_iaload {a n j : Nat} {i : Int32} {f : Nat → Int32} (hd : decode M.2.1 pc = .ok (.iaload, 1)) (he : h a = some (eI n f)) (hi : hv_ix i n j) (kk : hv_V l D M X rm Q bc bs h nx (pc + 1) lv (.int (f j) :: st)) : hv_V l D M X rm Q bc bs h nx pc lv (.int i :: .ref a :: st) := by
  intro p e R s m args below meth c A H locs cells slots ls hC hW hb hl
  refine va_iald hC.1 hC.2.1 (hC.K.one (k := 0) rfl) (hv_one hW.1 he) 0 0 rfl rfl hi.in hd ?_
  rw [hi.cl]
  exact kk p e R s m args below meth c A H locs cells slots ls hC hW hb hl
theorem V_laload {a n j : Nat} {i : Int32} {f : Nat → Int64} (hd : decode M.2.1 pc = .ok (.laload, 1)) (he : h a = some (eL n f)) (hi : hv_ix i n j) (kk : hv_V l D M X rm Q bc bs h nx (pc + 1) lv (.long (f j) :: st)) : hv_V l D M X rm Q bc bs h nx pc lv (.int i :: .ref a :: st) := by
  intro p e R s m args below meth c A H locs cells slots ls hC hW hb hl
  refine va_lald hC.1 hC.2.1 (hC.K.one (k := 1) rfl) (hv_one hW.1 he) 0 0 rfl rfl hi.in hd ?_
  rw [hi.cl]
  exact kk p e R s m args below meth c A H locs cells slots ls hC hW hb hl
theorem V_iastore {a n j : Nat} {i x : Int32} {f : Nat → Int32} (hd : decode M.2.1 pc = .ok (.iastore, 1)) (he : h a = some (eI n f)) (hi : hv_ix i n j) (kk : hv_V l D M X rm Q bc bs (hv_up h a (eI n (va_up f j x))) nx (pc + 1) lv st) : hv_V l D M X rm Q bc bs h nx pc lv (.int x :: .int i :: .ref a :: st) := by
  intro p e R s m args below meth c A H locs cells slots ls hC hW hb hl
  refine W.iast hC.1 hC.2.1 (hW.1 a _ he) (((hC.K.2.1 0 .int rfl).1) n (fun j => .int (f j))) (fun q => by cases q) (by show ¬ (i < 0 ∨ (arrV _ _ _).slots.size ≤ _); rw [arrV_size]; exact hi.in) rfl rfl hd fun H1 e1 z oq => ?_
  refine kk p e R s m args below meth c A H1 _ cells slots ls hC (hW.put he ?_ z oq) hb hl
  show H1[a]? = some (vp_cell _ _)
  rw [e1]
  simp only [hv_a]
  rw [vp_cell_i, vp_cell_i, arrV_store, hi.cl]
  congr 2
  funext q
  by_cases hq : q = j
  · subst hq
    simp [updV, va_up]
  · simp [updV, va_up, hq]
theorem V_lastore {a n j : Nat} {i : Int32} {x : Int64} {f : Nat → Int64} (hd : decode M.2.1 pc = .ok (.lastore, 1)) (he : h a = some (eL n f)) (hi : hv_ix i n j) (kk : hv_V l D M X rm Q bc bs (hv_up h a (eL n (va_up f j x))) nx (pc + 1) lv st) : hv_V l D M X rm Q bc bs h nx pc lv (.long x :: .int i :: .ref a :: st) := by
  intro p e R s m args below meth c A H locs cells slots ls hC hW hb hl
  refine W.last hC.1 hC.2.1 (hW.1 a _ he) (((hC.K.2.1 1 .long rfl).1) n (fun j => .long (f j))) (fun q => by cases q) (by show ¬ (i < 0 ∨ (arrV _ _ _).slots.size ≤ _); rw [arrV_size]; exact hi.in) rfl rfl hd fun H1 e1 z oq => ?_
  refine kk p e R s m args below meth c A H1 _ cells slots ls hC (hW.put he ?_ z oq) hb hl
  show H1[a]? = some (vp_cell _ _)
  rw [e1]
  simp only [hv_a]
  rw [vp_cell_l, vp_cell_l, arrV_store, hi.cl]
  congr 2
  funext q
  by_cases hq : q = j
  · subst hq
    simp [updV, va_up]
  · simp [updV, va_up, hq]
theorem V_arraylength {a k n : Nat} {b : hv_A} (hd : decode M.2.1 pc = .ok (.arraylength, 1)) (he : h a = some (.inl (k, n, b))) (hk : ∃ ty, hv_tys[k]? = some ty) (kk : hv_V l D M X rm Q bc bs h nx (pc + 1) lv (.int (nI n) :: st)) : hv_V l D M X rm Q bc bs h nx pc lv (.ref a :: st) := by
  intro p e R s m args below meth c A H locs cells slots ls hC hW hb hl
  obtain ⟨ty, hk⟩ := hk
  exact va_alen hC.1 hC.2.1 (hC.K.one hk) (hv_one hW.1 he) 0 0 rfl rfl rfl hd (kk p e R s m args below meth c A H locs cells slots ls hC hW hb hl)
theorem V_aaload {a k n j y : Nat} {C : String} {i : Int32} {f : Nat → Option Nat} (hd : decode M.2.1 pc = .ok (.aaload, 1)) (he : h a = some (eQ k n f)) (hk : hv_tys[k]? = some (.object C)) (hi : hv_ix i n j) (hy : f j = some y) (kk : hv_V l D M X rm Q bc bs h nx (pc + 1) lv (.ref y :: st)) : hv_V l D M X rm Q bc bs h nx pc lv (.int i :: .ref a :: st) := by
  intro p e R s m args below meth c A H locs cells slots ls hC hW hb hl
  refine va_aldq hC.1 hC.2.1 (hC.K.one hk) (hv_one hW.1 he) 0 0 rfl rfl hi.in hd ?_
  rw [hi.cl, hy]
  exact kk p e R s m args below meth c A H locs cells slots ls hC hW hb hl
theorem V_aastore {a k n j y ci : Nat} {C : String} {T : u_T} {N : Nat} {vs : List Value} {i : Int32} {f : Nat → Option Nat} (hd : decode M.2.1 pc = .ok (.aastore, 1)) (he : h a = some (eQ k n f)) (hk : hv_tys[k]? = some (.object C)) (hi : hv_ix i n j) (hc : vwCl[ci]? = some (C, T, N)) (hy : h y = some (eO ci vs)) (kk : hv_V l D M X rm Q bc bs (hv_up h a (eQ k n (va_up f j (some y)))) nx (pc + 1) lv st) : hv_V l D M X rm Q bc bs h nx pc lv (.ref y :: .int i :: .ref a :: st) := by
  intro p e R s m args below meth c A H locs cells slots ls hC hW hb hl
  have hin := hi.in
  have hlt : i.toNatClampNeg < n := Nat.not_le.mp fun q => hin (Or.inr q)
  have h0 : ¬ i < 0 := fun q => hin (Or.inl q)
  obtain ⟨r', hr', cellV, g1, g2, g3, -⟩ := hW.1 y _ hy
  have hcls := (hC.K.1 ci _ hc).2
  obtain ⟨kA, comp, k1, k2, k3, -⟩ := (hC.K.2.1 k _ hk).2
  have hcomp : comp = D.1 ci := Option.some.inj (k3.symm.trans hcls.1)
  subst hcomp
  obtain ⟨kC, hkC, -⟩ := hcls.2
  refine W.aast hC.1 hC.2.1 (hW.1 a _ he) (fun q h => by cases h) (fun h => by cases h) k1 k2 rfl hkC ⟨h0, by show _ < (arrV _ _ _).slots.size; rw [arrV_size]; exact hlt⟩ g1 (fun q h => by rw [g3] at h; cases h) (by rw [g2]; exact hkC) (by rw [g2]; exact va_assign hcls) rfl rfl hd fun H1 e1 z oq => ?_
  refine kk p e R s m args below meth c A H1 _ cells slots ls hC (hW.put he ?_ z oq) hb hl
  show H1[a]? = some (vp_cell _ _)
  rw [e1]
  simp only [hv_a]
  rw [vp_cell_q, vp_cell_q, arrV_store, hi.cl]
  congr 2
  funext q
  by_cases hq : q = j
  · subst hq
    simp [updV, va_up, va_rf]
  · simp [updV, va_up, hq]
theorem V_new {idx ci N : Nat} {fs : List Value} (hd : decode M.2.1 pc = .ok (.new idx, 3)) (hf : hv_nw M.1.cls idx ci N fs) (hbc : 1 ≤ bc) (hbs : N ≤ bs) (kk : hv_V l D M X rm Q (bc - 1) (bs - N) (hv_up h nx (eO ci fs)) (nx + 1) (pc + 3) lv (.ref nx :: st)) : hv_V l D M X rm Q bc bs h nx pc lv st := by
  intro p e R s m args below meth c A H locs cells slots ls hC hW hb hl
  obtain ⟨C, T, tt, ⟨hc, hin, hty, hnm, hdc⟩, w1, w2, w3, hfs⟩ := hf
  have hKn := hC.K.va.1 ci _ hc
  have hr := hC.room
  have hnx := hW.2.1
  refine W.newcK hC.1 hC.2.1 hC.own (hC.word _ w1) (hC.word _ w2) (hC.word _ w3) rfl hd (by omega) (by omega) hKn.2.1 hnx fun H1 kC hkC e1 z1 o1 => ?_
  subst hnx
  exact kk p e R s m args below meth c A H1 locs (cells + 1) (slots + N) ls hC (hW.new hC.inA ⟨_, hc, (u_born tt hC.word hin hKn hkC e1 hty).to hfs⟩ z1 o1) ⟨by omega, by omega⟩ hl
theorem V_newI {n : Int32} {N : Nat} (hd : decode M.2.1 pc = .ok (.newarray .int, 2)) (ha : Cond.arrayClass .int ∈ hv_tbl) (hn : n = nI N) (hN : N ≤ 100000000) (hbc : 1 ≤ bc) (hbs : N ≤ bs) (kk : hv_V l D M X rm Q (bc - 1) (bs - N) (hv_up h nx (eI N (fun _ => 0))) (nx + 1) (pc + 2) lv (.ref nx :: st)) : hv_V l D M X rm Q bc bs h nx pc lv (.int n :: st) := by
  intro p e R s m args below meth c A H locs cells slots ls hC hW hb hl
  have hr := hC.room
  have hnx := hW.2.1
  subst hn
  refine va_newaK (atype := .int) hC.1 hC.2.1 (hC.word _ ha) rfl hd rfl (nI_pos (by omega)) (nI_clamp (by omega)) (by show N * 4 ≤ _; omega) (by omega) (by omega) hnx fun H1 cA e1 z1 o1 hAr hNm => ?_
  subst hnx
  have hca : cA = D.2.2 0 := Option.some.inj (hNm.symm.trans (hC.K.2.1 0 .int rfl).2)
  subst hca
  exact kk p e R s m args below meth c A H1 locs (cells + 1) (slots + N) ls hC (hW.new hC.inA e1 z1 o1) ⟨by omega, by omega⟩ hl
theorem V_newL {n : Int32} {N : Nat} (hd : decode M.2.1 pc = .ok (.newarray .long, 2)) (ha : Cond.arrayClass .long ∈ hv_tbl) (hn : n = nI N) (hN : N ≤ 50000000) (hbc : 1 ≤ bc) (hbs : N ≤ bs) (kk : hv_V l D M X rm Q (bc - 1) (bs - N) (hv_up h nx (eL N (fun _ => 0))) (nx + 1) (pc + 2) lv (.ref nx :: st)) : hv_V l D M X rm Q bc bs h nx pc lv (.int n :: st) := by
  intro p e R s m args below meth c A H locs cells slots ls hC hW hb hl
  have hr := hC.room
  have hnx := hW.2.1
  subst hn
  refine va_newaK (atype := .long) hC.1 hC.2.1 (hC.word _ ha) rfl hd rfl (nI_pos (by omega)) (nI_clamp (by omega)) (by show N * 8 ≤ _; omega) (by omega) (by omega) hnx fun H1 cA e1 z1 o1 hAr hNm => ?_
  subst hnx
  have hca : cA = D.2.2 1 := Option.some.inj (hNm.symm.trans (hC.K.2.1 1 .long rfl).2)
  subst hca
  exact kk p e R s m args below meth c A H1 locs (cells + 1) (slots + N) ls hC (hW.new hC.inA e1 z1 o1) ⟨by omega, by omega⟩ hl
theorem V_newQ {n : Int32} {N idx k : Nat} {C : String} (hd : decode M.2.1 pc = .ok (.anewarray idx, 3)) (hcl : Cond.classLink M.1.cls idx C ∈ hv_tbl) (hov : C ∈ hv_over) (hk : hv_tys[k]? = some (.object C)) (hn : n = nI N) (hN : N ≤ 100000000) (hbc : 1 ≤ bc) (hbs : N ≤ bs) (kk : hv_V l D M X rm Q (bc - 1) (bs - N) (hv_up h nx (eQ k N (fun _ => none))) (nx + 1) (pc + 3) lv (.ref nx :: st)) : hv_V l D M X rm Q bc bs h nx pc lv (.int n :: st) := by
  intro p e R s m args below meth c A H locs cells slots ls hC hW hb hl
  have hr := hC.room
  have hnx := hW.2.1
  subst hn
  have hcl2 : (nI N).toNatClampNeg = N := nI_clamp (by omega)
  refine W.anew hC.1 hC.2.1 hC.own (hC.word _ hcl) (va_AO.use (hC.K.2.2.2 C hov)) rfl hd rfl (nI_pos (by omega)) (by rw [hcl2]; omega) (by omega) (by rw [hcl2]; omega) fun cA kA comp f1 f2 f3 f4 => ?_
  rw [hcl2]
  subst hnx
  obtain ⟨kA', comp', k1, k2, k3, k4⟩ := (hC.K.2.1 k _ hk).2
  have hca : cA = D.2.2 k := Option.some.inj (f1.symm.trans k4)
  subst hca
  generalize hH1 : H.push ({ cls := D.2.2 k, slots := Array.replicate N .null, vm := .none } : Cell) = H1
  have z1 : H1.size = H.size + 1 := by rw [← hH1, Array.size_push]
  have e1 : H1[H.size]? = some (arrV (D.2.2 k) N (fun _ => .null)) := by rw [← hH1, Array.getElem?_push_size, ← arrV_new]
  have o1 : ∀ q : Nat, q < H.size → H1[q]? = H[q]? := fun q hq => by rw [← hH1, Array.getElem?_push, if_neg (Nat.ne_of_lt hq)]
  exact kk p e R s m args below meth c A H1 locs (cells + 1) (slots + N) ls hC (hW.new hC.inA e1 z1 o1) ⟨by omega, by omega⟩ hl
theorem hv_end {p : Program} {e : Env} {R : Room} {s : State} {m : MethodId} {args : Array Value} {below : List Frame} {meth : Method} {c : Code} {A : Nat → Prop} {H : Heap} {locs : List Loc} {cells slots : Nat} {g : JFrame} (hb : cells + bc ≤ rm.cells ∧ slots + bs ≤ rm.slots) (k : W p l e R s m args below meth c H locs rm.cells rm.slots (MQ below (hv_Q D Q A) args s rm.cells rm.slots A) g) : W p l e R s m args below meth c H locs cells slots (hv_Z D Q below args s rm.cells rm.slots A) g := by
  refine W.widen (k := rm.cells) (n := rm.slots) (by omega) (by omega) (W.mono (fun t ht => ?_) k)
  obtain ⟨o, h1, h2, h3, L, ⟨h4, h5, h6⟩, h7⟩ := ht
  exact ⟨o, h1, h2, h3, L, ⟨h5, h6⟩, h7⟩
theorem hv_post {s t : State} {A : Nat → Prop} {H : Heap} {locs : List Loc} {args : Array Value} {v : Option Value} (hW : hv_W D h nx A s H locs) (hq : Q (.inl v) h nx) (ht : t.heap = H) : hv_Q D Q A args s (.returned v) t := by
  obtain ⟨w1, w2, w3, w4⟩ := hW
  exact ⟨⟨.inl v, h, rfl, by rw [ht, w2]; exact hq, by rw [ht]; exact w1, w4⟩, w3.F ht⟩
theorem V_ireturn {v : Int32} (hd : decode M.2.1 pc = .ok (.ireturn, 1)) (hr : M.2.2.2 = some .int) (hq : Q (.inl (some (.int v))) h nx) : hv_V l D M X rm Q bc bs h nx pc lv [.int v] := by
  intro p e R s m args below meth c A H locs cells slots ls hC hW hb hl
  exact hv_end hb (W.iret hC.1 hC.2.1 (hC.ret.trans hr) (fun t ht _ => hv_post hW hq ht) hW.2.2.1.2.2 hd hC.lock)
theorem V_zreturn {v : Int32} (hd : decode M.2.1 pc = .ok (.ireturn, 1)) (hr : M.2.2.2 = some .boolean) (hn : narrow .boolean (.int v) = .int v) (hq : Q (.inl (some (.int v))) h nx) : hv_V l D M X rm Q bc bs h nx pc lv [.int v] := by
  intro p e R s m args below meth c A H locs cells slots ls hC hW hb hl
  exact hv_end hb (W.zret hC.1 hC.2.1 (hC.ret.trans hr) hn (fun t ht _ => hv_post hW hq ht) hW.2.2.1.2.2 hd hC.lock)
theorem V_lreturn {v : Int64} (hd : decode M.2.1 pc = .ok (.lreturn, 1)) (hr : M.2.2.2 = some .long) (hq : Q (.inl (some (.long v))) h nx) : hv_V l D M X rm Q bc bs h nx pc lv [.long v] := by
  intro p e R s m args below meth c A H locs cells slots ls hC hW hb hl
  exact hv_end hb (W.lret hC.1 hC.2.1 (hC.ret.trans hr) (fun t ht _ => hv_post hW hq ht) hW.2.2.1.2.2 hd hC.lock)
theorem V_return (hd : decode M.2.1 pc = .ok (.return_, 1)) (hr : M.2.2.2 = none) (hq : Q (.inl none) h nx) : hv_V l D M X rm Q bc bs h nx pc lv [] := by
  intro p e R s m args below meth c A H locs cells slots ls hC hW hb hl
  exact hv_end hb (W.vret hC.1 hC.2.1 (hC.ret.trans hr) (fun t ht _ => hv_post hW hq ht) hW.2.2.1.2.2 hd hC.lock)
theorem V_areturn {a : Nat} {C : String} (hd : decode M.2.1 pc = .ok (.areturn, 1)) (hr : M.2.2.2 = some (.object C)) (hq : Q (.inl (some (.ref a))) h nx) : hv_V l D M X rm Q bc bs h nx pc lv [.ref a] := by
  intro p e R s m args below meth c A H locs cells slots ls hC hW hb hl
  exact hv_end hb (W.aret hC.1 hC.2.1 (hC.ret.trans hr) (Or.inl ⟨C, rfl⟩) (Or.inr ⟨a, rfl⟩) (fun t ht _ => hv_post hW hq ht) hW.2.2.1.2.2 hd hC.lock)
theorem V_tableIn {dflt lo hi : Int} {offs : Array Int} {len : Nat} {x : Int32} {off : Int} (tgt : Nat) (hd : decode M.2.1 pc = .ok (.tableswitch dflt lo hi offs, len)) (h1 : ¬ x.toInt < lo) (h2 : ¬ hi < x.toInt) (ho : offs[(x.toInt - lo).toNat]? = some off) (ht : (pc : Int) + off = (tgt : Int)) (k : hv_V l D M X rm Q bc bs h nx tgt lv st) : hv_V l D M X rm Q bc bs h nx pc lv (.int x :: st) :=
  fun p e R s m args below meth c A H locs cells slots ls hC hW hb hl => lv_tableIn hC.1 hC.2.1 hd h1 h2 ho ht (k p e R s m args below meth c A H locs cells slots ls hC hW hb hl)
theorem V_tableOut {dflt lo hi : Int} {offs : Array Int} {len : Nat} {x : Int32} (tgt : Nat) (hd : decode M.2.1 pc = .ok (.tableswitch dflt lo hi offs, len)) (h0 : x.toInt < lo ∨ hi < x.toInt) (ht : (pc : Int) + dflt = (tgt : Int)) (k : hv_V l D M X rm Q bc bs h nx tgt lv st) : hv_V l D M X rm Q bc bs h nx pc lv (.int x :: st) :=
  fun p e R s m args below meth c A H locs cells slots ls hC hW hb hl => lv_tableOut hC.1 hC.2.1 hd h0 ht (k p e R s m args below meth c A H locs cells slots ls hC hW hb hl)
theorem V_widen {bc' bs' : Nat} (h1 : bc' ≤ bc) (h2 : bs' ≤ bs) (k : hv_V l D M X rm Q bc' bs' h nx pc lv st) : hv_V l D M X rm Q bc bs h nx pc lv st :=
  fun p e R s m args below meth c A H locs cells slots ls hC hW hb hl => k p e R s m args below meth c A H locs cells slots ls hC hW ⟨by omega, by omega⟩ hl
end HVH
-- contracts
/-- frames, locals, cells, slots -/
abbrev hv_rm (f lo c s : Nat) : Room := { frames := f, cells := c, slots := s, locals := lo }
def hv_dom (h : hv_P) (nx : Nat) : Nat → Prop := fun q => (∃ e, h q = some e) ∨ nx ≤ q
def hv_Pc (D : hv_D) (As : List Value) (h : hv_P) (nx : Nat) : Array Value → State → Prop := fun v U => v = As.toArray ∧ U.heap.size = nx ∧ hv_at D h U.heap ∧ hv_K D U
/-- METHOD M, called with As in the heap h (nx cells in all), ends as Q says; rm: the room that it needs -/
def hv_N (l : Launch) (D : hv_D) (M : hv_M) (rm : Room) (As : List Value) (h : hv_P) (nx : Nat) (Q : hv_R → hv_P → Nat → Prop) : Prop :=
  MetFree l M.1 (headSpec (hv_ws M) rm) (hv_Pc D As h nx) (fun _ _ _ _ _ => True) (fun a st o t => hv_Q D Q (hv_dom h nx) a st o t ∧ hv_Fr st t rm.cells rm.slots (hv_dom h nx))
def hv_ent : List Value → Nat → List (Option Value)
  | [], n => List.replicate n none
  | v :: vs, n => match v.category with
    | 2 => some v :: none :: hv_ent vs (n - 2)
    | _ => some v :: hv_ent vs (n - 1)
theorem hv_ent_mem : ∀ (vs : List Value) (n o i : Nat) (v : Value), (hv_ent vs n)[i]? = some (some v) → (o + i, v) ∈ lv_args o vs
  | [], n, o, i, v, h => by
    simp only [hv_ent] at h
    have := List.eq_of_mem_replicate (List.mem_of_getElem? h)
    cases this
  | w :: vs, n, o, i, v, h => by
    rcases lv_cat w with hw | hw
    · simp only [hv_ent, hw] at h
      simp only [lv_args, hw]
      cases i with
      | zero => simp at h; subst h; simp
      | succ i =>
        have := hv_ent_mem vs (n - 1) (o + 1) i v (by simpa using h)
        rw [show o + (i + 1) = o + 1 + i by omega]
        simp [this]
    · simp only [hv_ent, hw] at h
      simp only [lv_args, hw]
      match i, h with
      | 0, h => simp at h; subst h; simp
      | 1, h => simp at h
      | i + 2, h =>
        have := hv_ent_mem vs (n - 2) (o + 2) i v (by simpa using h)
        rw [show o + (i + 2) = o + 2 + i by omega]
        simp [this]
theorem hv_N.of {l : Launch} {D : hv_D} {M : hv_M} {rm : Room} {As : List Value} {h : hv_P} {nx : Nat} {Q : hv_R → hv_P → Nat → Prop} (lv : List (Option Value)) (hy : plainFor M.1 = true) (hlv : hv_ent As M.2.2.1 = lv) (hle : lv.length ≤ M.2.2.1) (hls : (lg_sl As).length ≤ M.2.2.1) (k : hv_V l D M (fun _ _ => True) rm Q rm.cells rm.slots h nx 0 lv []) : hv_N l D M rm As h nx Q := by
  refine MetFree.of_bodySF (code := M.2.1) (maxLocals := M.2.2.1) (ret := M.2.2.2) hy ?_ ?_
  · intro args s m h hn
    obtain ⟨meth, c, h1, h2, h3, h4, h5, h6, -, -⟩ := Cond.code_spec hn (atoms_spec (ws := hv_ws M) h _ List.mem_cons_self)
    exact ⟨meth, c, h1, h2, h3, h4, h5, h6⟩
  · intro p e s m args below meth c s₁ B hml hP _
    obtain ⟨rfl, hsz, hat, hK⟩ := hP
    have hh0 : s₁.heap = s.heap := by rw [B.state]; rfl
    have hts := atoms_spec (ws := hv_ws M) B.pre
    have hC : hv_C D M (fun _ _ => True) rm p rm s m As.toArray meth c (hv_dom h nx) :=
      ⟨B.exec, B.bytes, B.returns, hml, findClass_of_methodNamed B.named, fun w hw => hts w (List.mem_cons_of_mem _ hw), B.notSynchronized, (name_of_methodNamed B.named B.method).1, hK, fun q hq => Or.inr (by omega), ⟨Nat.le_refl _, Nat.le_refl _, Nat.le_refl _, Nat.le_refl _⟩, trivial⟩
    have hl0 := lv_entry As (n := M.2.2.1) hls
    have hL : hv_L ((lg_sl As ++ List.replicate (M.2.2.1 - (lg_sl As).length) Slot.unset).toArray) M.2.2.1 lv := ⟨hl0.1, hle, hl0.2.1, fun i v hi => hl0.2.2 (i, v) (by have := hv_ent_mem As M.2.2.1 0 i v (by rw [hlv]; exact hi); simpa using this)⟩
    have K := k p e rm s m As.toArray below meth c (hv_dom h nx) s.heap [] 0 0 _ hC ⟨hat, hsz, va_S.rf, fun a e he => Or.inl ⟨e, he⟩⟩ ⟨by omega, by omega⟩ hL
    rw [← lg_entry_eq] at K
    obtain ⟨t, a1, o, b1, b2, b3⟩ := K s₁ hh0 (Stand.of_body B)
    exact ⟨t, o, a1, b1, b2, b3⟩
theorem hv_N.mono {l : Launch} {D : hv_D} {M : hv_M} {rm : Room} {As : List Value} {h : hv_P} {nx : Nat} {Q Q' : hv_R → hv_P → Nat → Prop} (hQ : ∀ r h' n', Q r h' n' → Q' r h' n') (hN : hv_N l D M rm As h nx Q) : hv_N l D M rm As h nx Q' := by
  intro p e ha hc hk s m args below hf happ hP hK
  obtain ⟨n, o, h1, h2, h3, ⟨⟨r, h', q1, q2, q3⟩, q4⟩, hF⟩ := hN p e ha hc hk s m args below hf happ hP hK
  exact ⟨n, o, h1, h2, h3, ⟨⟨r, h', q1, hQ _ _ _ q2, q3⟩, q4⟩, hF⟩
theorem hv_N.met {l : Launch} {D : hv_D} {M : hv_M} {rm : Room} {As : List Value} {h : hv_P} {nx : Nat} {Q : hv_R → hv_P → Nat → Prop} (hN : hv_N l D M rm As h nx Q) (hr : ∀ r h' n', Q r h' n' → ∃ v, r = .inl v) : Met l M.1 (hv_ws M) rm (hv_Pc D As h nx) (hv_Q D Q (hv_dom h nx)) rm.cells rm.slots (hv_dom h nx) := by
  intro p e ha hc hk s m args below hf happ hP hK
  obtain ⟨n, o, h1, h2, h3, hq, L, ⟨hw, hs⟩, hL⟩ := hN p e ha hc hk s m args below hf happ hP hK
  refine ⟨n, o, h1, h2, h3, hq, L, ⟨?_, hw, hs⟩, hL⟩
  obtain ⟨⟨r, h', ho, hQ, -⟩, -⟩ := hq
  obtain ⟨v, rfl⟩ := hr _ _ _ hQ
  exact ⟨v, ho⟩
theorem hv_K.moved {D : hv_D} {s U : State} (hW : s.WarmedH U.vm) (h : hv_K D s) (hn : ∀ w ∈ hv_nest, hv_isN w = true) : hv_K D U := by
  have hvm := hW.alike
  refine ⟨fun c q hq => u_Kn_moved hvm (h.1 c q hq), fun k ty hk => ⟨arrOfT_moved hvm (h.2.1 k ty hk).1, (h.2.1 k ty hk).2.moved hvm⟩, fun w hw => ?_, fun C hC => (h.2.2.2 C hC).moved hvm⟩
  have h1 := h.2.2.1 w hw
  have h2 := hn w hw
  cases w <;> first | (simp [hv_isN] at h2; done) | exact va_Nw.warmF hW h1 | exact va_Nw.warmM hW h1
end
section
-- CALLS by contract
theorem hv_go {l : Launch} {D : hv_D} {p : Program} {e : Env} {R : Room} {s : State} {m : MethodId} {args : Array Value} {below : List Frame} {meth : Method} {c : Code} {A : Nat → Prop} {H : Heap} {locs : List Loc} {cells slots mc' ms' pc nx : Nat} {h : hv_P} {Q' : hv_R → hv_P → Nat → Prop} {Z : State → Prop} {ls : Array Slot} {st0 rest : List Value} {a : Array Value}
    (hr : va_Run p l e R s m args below meth c H locs cells slots mc' ms' (F0 m pc ls st0) rest (hv_Q D Q' (hv_dom h nx) a) (hv_dom h nx)) (hW : hv_W D h nx A s H locs) (hA : ∀ q : Nat, s.heap.size ≤ q → A q)
    (kk : ∀ (v : Option Value) (h' : hv_P) (H1 : Heap) (locs1 : List Loc), Q' (.inl v) h' H1.size → hv_W D h' H1.size A s H1 locs1 → W p l e R s m args below meth c H1 locs1 (cells + mc') (slots + ms') Z (F0 m (pc + 3) ls (v.toList ++ rest))) : W p l e R s m args below meth c H locs cells slots Z (F0 m pc ls st0) := by
  obtain ⟨w1, w2, w3, w4⟩ := hW
  have hsub : ∀ q, hv_dom h nx q → A q := by
    rintro q (⟨e, he⟩ | hq)
    · exact w4 q e he
    · exact hA q (Nat.le_trans w3.1 (by omega))
  intro T hT X
  obtain ⟨v, st₀, t, T', L, h0, X', hL, e1, e2, ⟨⟨r, h', ho, hq, hat, hdom⟩, hz, hk⟩, st⟩ := hr T hT X
  rw [h0] at hz hk
  have hv : r = .inl v := by
    cases r with
    | inl v' =>
      have ho' : Outcome.returned v = Outcome.returned v' := ho
      cases ho'
      rfl
    | inr k =>
      obtain ⟨x, _, hx, _⟩ := ho
      cases hx
  subst hv
  obtain ⟨t2, a1, b1⟩ := kk v h' T'.heap (locs ++ L) (by rw [e1]; exact hq) ⟨by rw [e1]; exact hat, rfl, ⟨Nat.le_trans w3.1 (by rw [e1]; exact hz), fun q h1 h2 => by rw [e1, hk q (Nat.lt_of_lt_of_le h1 w3.1) (fun z => h2 (hsub q z))]; exact w3.2.1 q h1 h2, fun q hq => by
    rcases List.mem_append.mp hq with h | h
    · exact w3.2.2 q h
    · exact hsub _ (hL q h)⟩, fun a e ha => hsub a (hdom a e ha)⟩ T' rfl X'
  exact ⟨t2, st t2 a1, b1⟩
theorem hv_n {M : hv_M} {n : Nat} (h : (parseMethodDescriptor M.1.desc).map (fun d => d.parameters.length) = some n) : ∀ sig, parseMethodDescriptor M.1.desc = some sig → n = sig.parameters.length := by
  intro sig hs
  rw [hs] at h
  exact (Option.some.inj h).symm
theorem hv_pays {args : Array Value} {s : State} (hts : ∀ w ∈ hv_tbl, w.before args s = true) {M : hv_M} (hc : Cond.code M.1 M.2.1 M.2.2.1 M.2.2.2 ∈ hv_tbl) : ∀ w ∈ hv_ws M, ∀ (a' : Array Value) (U : State), s.WarmedH U.vm → w.before a' U = true := by
  intro w hw a' U hW
  have hw' : w ∈ hv_tbl := by
    rcases List.mem_cons.mp hw with h | h
    · rw [h]; exact hc
    · exact h
  exact word_at hW (lw_good w hw') (hts w hw')
theorem hv_blind {D : hv_D} {As : List Value} {h : hv_P} {nx : Nat} : FrameBlind (hv_Pc D As h nx) := by
  intro a U g mk hP
  obtain ⟨h1, h2, h3, h4, h5, h6, h7⟩ := hP
  refine ⟨h1, h2, h3, fun c q hq => u_Kn_moved (u := U) (U := U.calling g mk a) (Vm.Alike.refl U.vm) (h4 c q hq), fun k ty hk => ⟨arrOfT_moved (E := U.calling g mk a) (Vm.Alike.refl U.vm) (h5 k ty hk).1, (h5 k ty hk).2.moved (U := U.calling g mk a) (Vm.Alike.refl U.vm)⟩, fun w hw => ?_, fun C hC => (h7 C hC).moved (U := U.calling g mk a) (Vm.Alike.refl U.vm)⟩
  have h8 := h6 w hw
  have h9 := hv_nest_ok w hw
  cases w <;> first | (simp [hv_isN] at h9; done) | exact va_Nw.same (U := U.calling g mk a) rfl rfl h8
section HVCALL
variable {l : Launch} {D : hv_D} {M : hv_M} {X : State → (Nat → Prop) → Prop} {rm : Room} {Q : hv_R → hv_P → Nat → Prop} {bc bs : Nat} {h : hv_P} {nx pc : Nat} {lv : List (Option Value)} {st : List Value}
variable {M' : hv_M} {rm' : Room} {idx n : Nat} {As rest : List Value} {Q' : hv_R → hv_P → Nat → Prop}
theorem V_static (hd : decode M.2.1 pc = .ok (.invokestatic idx, 3)) (hL : hv_mL M.1.cls idx M') (hB : hv_mB M' n) (hs : Cond.static M'.1 ∈ hv_tbl) (hN : hv_N l D M' rm' As h nx Q') (hret : ∀ r h' n', Q' r h' n' → ∃ v, r = .inl v) (hst : st = As.reverse ++ rest) (hn : As.length = n) (hrm : (rest.map fun v => v.category).sum ≤ 8) (hdd : rm'.frames + 1 ≤ rm.frames) (hml : 19 + M'.2.2.1 + rm'.locals ≤ rm.locals) (hmc : rm'.cells ≤ bc) (hms : rm'.slots ≤ bs)
    (k : ∀ (v : Option Value) (h' : hv_P) (nx' : Nat), Q' (.inl v) h' nx' → hv_V l D M X rm Q (bc - rm'.cells) (bs - rm'.slots) h' nx' (pc + 3) lv (v.toList ++ rest)) : hv_V l D M X rm Q bc bs h nx pc lv st := by
  intro p e R s m args below meth c A H locs cells slots ls hC hW hb hl
  subst hst
  obtain ⟨b1, b2, b3, b4⟩ := hB
  have hr := hC.room
  have hp : PreS s H (hv_Pc D As h nx) As := ⟨hv_blind, fun U hU hw => ⟨rfl, by rw [hU]; exact hW.2.1, by rw [hU]; exact hW.1, hv_K.moved hw hC.K hv_nest_ok⟩⟩
  have S : CallFix p m c M.2.1 M.2.2.1 s args hv_tbl M.1.cls := ⟨hC.1, hC.2.1, hC.maxL, hC.own, hC.word⟩
  have fit : cells + rm'.cells ≤ R.cells ∧ slots + rm'.slots ≤ R.slots := ⟨by omega, by omega⟩
  have hfr : rm'.frames + 1 ≤ R.frames := by omega
  have hlo : 8 + (M'.2.2.1 + 11) + rm'.locals ≤ R.locals := by omega
  have hcode : Cond.code M'.1 M'.2.1 M'.2.2.1 M'.2.2.2 ∈ hv_ws M' := List.mem_cons_self
  have run : va_Run p l e R s m args below meth c H locs cells slots rm'.cells rm'.slots (F0 m pc ls (As.reverse ++ rest)) rest (hv_Q D Q' (hv_dom h nx) As.toArray) (hv_dom h nx) := by
    rcases hL with hL | ⟨host, hL⟩
    · exact va_runS S (hN.met hret) ⟨⟨rfl, rfl, hfr, hlo, hv_pays hC.word b2, hcode, hC.word _ b2, hC.word _ b1, b3, hv_n b4, hC.word _ hL⟩, hC.word _ hs⟩ hp rfl hn hl.1 rfl (lv_room hrm) hd fit
    · exact va_runSN S (hN.met hret) ⟨⟨⟨rfl, rfl, hfr, hlo, hv_pays hC.word b2, hcode⟩, hC.word _ b2, hC.word _ b1, b3, hv_n b4, va_Nw.use rfl (hC.K.2.2.1 _ hL)⟩, hC.word _ hs, trivial⟩ hp rfl hn hl.1 rfl (lv_room hrm) hd fit
  exact hv_go run hW hC.inA fun v h' H1 locs1 hq hW1 => k v h' _ hq p e R s m args below meth c A H1 locs1 _ _ ls hC hW1 ⟨by omega, by omega⟩ hl
theorem V_special {b : Nat} (hd : decode M.2.1 pc = .ok (.invokespecial idx, 3)) (hL : hv_mL M.1.cls idx M') (hB : hv_mB M' n) (hi : Cond.instanceMethod M'.1 ∈ hv_tbl) (hin : M'.1.name = "<init>") (hre : M'.2.2.2 = none) (hN : hv_N l D M' rm' (.ref b :: As) h nx Q') (hret : ∀ r h' n', Q' r h' n' → ∃ v, r = .inl v) (hst : st = As.reverse ++ .ref b :: rest) (hn : As.length = n) (hrm : (rest.map fun v => v.category).sum ≤ 8) (hdd : rm'.frames + 1 ≤ rm.frames) (hml : 19 + M'.2.2.1 + rm'.locals ≤ rm.locals) (hmc : rm'.cells ≤ bc) (hms : rm'.slots ≤ bs)
    (k : ∀ (v : Option Value) (h' : hv_P) (nx' : Nat), Q' (.inl v) h' nx' → hv_V l D M X rm Q (bc - rm'.cells) (bs - rm'.slots) h' nx' (pc + 3) lv (v.toList ++ rest)) : hv_V l D M X rm Q bc bs h nx pc lv st := by
  intro p e R s m args below meth c A H locs cells slots ls hC hW hb hl
  subst hst
  obtain ⟨b1, b2, b3, b4⟩ := hB
  have hr := hC.room
  have hp : PreS s H (hv_Pc D (.ref b :: As) h nx) (.ref b :: As) := ⟨hv_blind, fun U hU hw => ⟨rfl, by rw [hU]; exact hW.2.1, by rw [hU]; exact hW.1, hv_K.moved hw hC.K hv_nest_ok⟩⟩
  have S : CallFix p m c M.2.1 M.2.2.1 s args hv_tbl M.1.cls := ⟨hC.1, hC.2.1, hC.maxL, hC.own, hC.word⟩
  have fit : cells + rm'.cells ≤ R.cells ∧ slots + rm'.slots ≤ R.slots := ⟨by omega, by omega⟩
  have hfr : rm'.frames + 1 ≤ R.frames := by omega
  have hlo : 8 + (M'.2.2.1 + 11) + rm'.locals ≤ R.locals := by omega
  have hcode : Cond.code M'.1 M'.2.1 M'.2.2.1 none ∈ hv_ws M' := by rw [← hre]; exact List.mem_cons_self
  have run : va_Run p l e R s m args below meth c H locs cells slots rm'.cells rm'.slots (F0 m pc ls (As.reverse ++ .ref b :: rest)) rest (hv_Q D Q' (hv_dom h nx) (Value.ref b :: As).toArray) (hv_dom h nx) := by
    rcases hL with hL | ⟨host, hL⟩
    · exact va_runI S (hN.met hret) ⟨⟨rfl, rfl, hfr, hlo, hv_pays hC.word b2, hcode, by rw [← hre]; exact hC.word _ b2, hC.word _ b1, b3, hv_n b4, hC.word _ hL⟩, hin, hC.word _ hi⟩ hp rfl hn hl.1 rfl (lv_room hrm) hd fit
    · exact va_runIN S (hN.met hret) ⟨⟨⟨rfl, rfl, hfr, hlo, hv_pays hC.word b2, hcode⟩, by rw [← hre]; exact hC.word _ b2, hC.word _ b1, b3, hv_n b4, va_Nw.use rfl (hC.K.2.2.1 _ hL)⟩, hin, hC.word _ hi⟩ hp rfl hn hl.1 rfl (lv_room hrm) hd fit
  exact hv_go run hW hC.inA fun v h' H1 locs1 hq hW1 => k v h' _ hq p e R s m args below meth c A H1 locs1 _ _ ls hC hW1 ⟨by omega, by omega⟩ hl
theorem V_virtual {b ci N : Nat} {T : u_T} {fs : List Value} (hd : decode M.2.1 pc = .ok (.invokevirtual idx, 3)) (hL : hv_mL M.1.cls idx M') (hB : hv_mB M' n) (hi : Cond.instanceMethod M'.1 ∈ hv_tbl) (hse : Cond.selects M'.1.cls M'.1 M'.1 ∈ hv_tbl) (hci : vwCl[ci]? = some (M'.1.cls, T, N)) (hob : h b = some (eO ci fs)) (hN : hv_N l D M' rm' (.ref b :: As) h nx Q') (hret : ∀ r h' n', Q' r h' n' → ∃ v, r = .inl v) (hst : st = As.reverse ++ .ref b :: rest) (hn : As.length = n) (hrm : (rest.map fun v => v.category).sum ≤ 8) (hdd : rm'.frames + 1 ≤ rm.frames) (hml : 19 + M'.2.2.1 + rm'.locals ≤ rm.locals) (hmc : rm'.cells ≤ bc) (hms : rm'.slots ≤ bs)
    (k : ∀ (v : Option Value) (h' : hv_P) (nx' : Nat), Q' (.inl v) h' nx' → hv_V l D M X rm Q (bc - rm'.cells) (bs - rm'.slots) h' nx' (pc + 3) lv (v.toList ++ rest)) : hv_V l D M X rm Q bc bs h nx pc lv st := by
  intro p e R s m args below meth c A H locs cells slots ls hC hW hb hl
  subst hst
  obtain ⟨b1, b2, b3, b4⟩ := hB
  have hr := hC.room
  have hp : PreV s H M'.1.cls b (hv_Pc D (.ref b :: As) h nx) As := ⟨hv_blind, va_recv hC.K.va (hv_one hW.1 hob) (ci := ci) (q0 := 0) hci rfl, fun U hU hw => ⟨rfl, by rw [hU]; exact hW.2.1, by rw [hU]; exact hW.1, hv_K.moved hw hC.K hv_nest_ok⟩⟩
  have S : CallFix p m c M.2.1 M.2.2.1 s args hv_tbl M.1.cls := ⟨hC.1, hC.2.1, hC.maxL, hC.own, hC.word⟩
  have fit : cells + rm'.cells ≤ R.cells ∧ slots + rm'.slots ≤ R.slots := ⟨by omega, by omega⟩
  have hfr : rm'.frames + 1 ≤ R.frames := by omega
  have hlo : 8 + (M'.2.2.1 + 11) + rm'.locals ≤ R.locals := by omega
  have hcode : Cond.code M'.1 M'.2.1 M'.2.2.1 M'.2.2.2 ∈ hv_ws M' := List.mem_cons_self
  have run : va_Run p l e R s m args below meth c H locs cells slots rm'.cells rm'.slots (F0 m pc ls (As.reverse ++ .ref b :: rest)) rest (hv_Q D Q' (hv_dom h nx) (Value.ref b :: As).toArray) (hv_dom h nx) := by
    rcases hL with hL | ⟨host, hL⟩
    · exact va_runV S (hN.met hret) ⟨⟨rfl, rfl, hfr, hlo, hv_pays hC.word b2, hcode, hC.word _ b2, hC.word _ b1, b3, hv_n b4, hC.word _ hL⟩, hC.word _ hi, hC.word _ hse⟩ hp rfl hn hl.1 rfl (lv_room hrm) hd fit
    · exact va_runVN S (hN.met hret) ⟨⟨⟨rfl, rfl, hfr, hlo, hv_pays hC.word b2, hcode⟩, hC.word _ b2, hC.word _ b1, b3, hv_n b4, va_Nw.use rfl (hC.K.2.2.1 _ hL)⟩, hC.word _ hi, hC.word _ hse⟩ hp rfl hn hl.1 rfl (lv_room hrm) hd fit
  exact hv_go run hW hC.inA fun v h' H1 locs1 hq hW1 => k v h' _ hq p e R s m args below meth c A H1 locs1 _ _ ls hC hW1 ⟨by omega, by omega⟩ hl
end HVCALL
end
section
-- ints that code naturals
theorem nx_and (a b : Nat) : nI a &&& nI b = nI (a &&& b) := by
  apply Int32.toBitVec_inj.1
  show BitVec.ofNat 32 a &&& BitVec.ofNat 32 b = BitVec.ofNat 32 (a &&& b)
  apply BitVec.eq_of_getLsbD_eq
  intro i hi
  simp [hi]
theorem nx_xor (a b : Nat) : nI a ^^^ nI b = nI (a ^^^ b) := by
  apply Int32.toBitVec_inj.1
  show BitVec.ofNat 32 a ^^^ BitVec.ofNat 32 b = BitVec.ofNat 32 (a ^^^ b)
  apply BitVec.eq_of_getLsbD_eq
  intro i hi
  simp [hi]
theorem nx_or (a b : Nat) : nI a ||| nI b = nI (a ||| b) := by
  apply Int32.toBitVec_inj.1
  show BitVec.ofNat 32 a ||| BitVec.ofNat 32 b = BitVec.ofNat 32 (a ||| b)
  apply BitVec.eq_of_getLsbD_eq
  intro i hi
  simp [hi]
theorem nx_l : ∀ n, n < 32 → ((nI n &&& 31).toBitVec.smod 32).toNat = n := by decide +kernel
theorem nx_u : ∀ n, n < 32 → (((nI n).toUInt32 &&& Int32.toUInt32 31).toBitVec % 32).toNat = n := by decide +kernel
theorem nx_shl (a : Nat) {k : Nat} (hk : k < 32) : nI a <<< (nI k &&& 31) = nI (a * 2 ^ k) := by
  apply Int32.toBitVec_inj.mp
  apply BitVec.eq_of_toNat_eq
  rw [pk_shl _ _ k (nx_l k hk)]
  show (BitVec.ofNat 32 a).toNat * 2 ^ k % 2 ^ 32 = (BitVec.ofNat 32 (a * 2 ^ k)).toNat
  rw [BitVec.toNat_ofNat, BitVec.toNat_ofNat, Nat.mod_mul_mod]
theorem nx_shr {a k : Nat} (ha : a < 2 ^ 31) (hk : k < 32) : nI a >>> (nI k &&& 31) = nI (a / 2 ^ k) := pk_shrN ha _ k (nx_l k hk)
theorem nx_ushr {a k : Nat} (ha : a < 2 ^ 32) (hk : k < 32) : ((nI a).toUInt32 >>> ((nI k).toUInt32 &&& Int32.toUInt32 31)).toInt32 = nI (a / 2 ^ k) := pk_ushrN ha _ k (nx_u k hk)
/-- an array of ints that code naturals -/
abbrev eN (n : Nat) (f : Nat → Nat) : hv_E := eI n (fun j => nI (f j))
theorem eN_up (f : Nat → Nat) (j x : Nat) : va_up (fun j => nI (f j)) j (nI x) = fun q => nI (va_up f j x q) := by
  funext q
  unfold va_up
  split <;> rfl
section HVN
variable {l : Launch} {D : hv_D} {M : hv_M} {X : State → (Nat → Prop) → Prop} {rm : Room} {Q : hv_R → hv_P → Nat → Prop} {bc bs : Nat} {h : hv_P} {nx pc : Nat} {lv : List (Option Value)} {st : List Value}
theorem V_iaddN {a b : Nat} (hd : decode M.2.1 pc = .ok (.iadd, 1)) (k : hv_V l D M X rm Q bc bs h nx (pc + 1) lv (.int (nI (a + b)) :: st)) : hv_V l D M X rm Q bc bs h nx pc lv (.int (nI b) :: .int (nI a) :: st) := V_iadd hd (by rw [nI_add]; exact k)
theorem V_isubN {a b : Nat} (hd : decode M.2.1 pc = .ok (.isub, 1)) (hle : b ≤ a) (k : hv_V l D M X rm Q bc bs h nx (pc + 1) lv (.int (nI (a - b)) :: st)) : hv_V l D M X rm Q bc bs h nx pc lv (.int (nI b) :: .int (nI a) :: st) := V_isub hd (by rw [pk_sub hle]; exact k)
theorem V_imulN {a b : Nat} (hd : decode M.2.1 pc = .ok (.imul, 1)) (k : hv_V l D M X rm Q bc bs h nx (pc + 1) lv (.int (nI (a * b)) :: st)) : hv_V l D M X rm Q bc bs h nx pc lv (.int (nI b) :: .int (nI a) :: st) := V_imul hd (by rw [pk_mul]; exact k)
theorem V_iandN {a b : Nat} (hd : decode M.2.1 pc = .ok (.iand, 1)) (k : hv_V l D M X rm Q bc bs h nx (pc + 1) lv (.int (nI (a &&& b)) :: st)) : hv_V l D M X rm Q bc bs h nx pc lv (.int (nI b) :: .int (nI a) :: st) := V_iand hd (by rw [nx_and]; exact k)
theorem V_iorN {a b : Nat} (hd : decode M.2.1 pc = .ok (.ior, 1)) (k : hv_V l D M X rm Q bc bs h nx (pc + 1) lv (.int (nI (a ||| b)) :: st)) : hv_V l D M X rm Q bc bs h nx pc lv (.int (nI b) :: .int (nI a) :: st) := V_ior hd (by rw [nx_or]; exact k)
theorem V_ixorN {a b : Nat} (hd : decode M.2.1 pc = .ok (.ixor, 1)) (k : hv_V l D M X rm Q bc bs h nx (pc + 1) lv (.int (nI (a ^^^ b)) :: st)) : hv_V l D M X rm Q bc bs h nx pc lv (.int (nI b) :: .int (nI a) :: st) := V_ixor hd (by rw [nx_xor]; exact k)
theorem V_ishlN {a b : Nat} (hd : decode M.2.1 pc = .ok (.ishl, 1)) (hk : b < 32) (k : hv_V l D M X rm Q bc bs h nx (pc + 1) lv (.int (nI (a * 2 ^ b)) :: st)) : hv_V l D M X rm Q bc bs h nx pc lv (.int (nI b) :: .int (nI a) :: st) := V_ishl hd (by rw [nx_shl a hk]; exact k)
theorem V_ishrN {a b : Nat} (hd : decode M.2.1 pc = .ok (.ishr, 1)) (ha : a < 2 ^ 31) (hk : b < 32) (k : hv_V l D M X rm Q bc bs h nx (pc + 1) lv (.int (nI (a / 2 ^ b)) :: st)) : hv_V l D M X rm Q bc bs h nx pc lv (.int (nI b) :: .int (nI a) :: st) := V_ishr hd (by rw [nx_shr ha hk]; exact k)
theorem V_iushrN {a b : Nat} (hd : decode M.2.1 pc = .ok (.iushr, 1)) (ha : a < 2 ^ 32) (hk : b < 32) (k : hv_V l D M X rm Q bc bs h nx (pc + 1) lv (.int (nI (a / 2 ^ b)) :: st)) : hv_V l D M X rm Q bc bs h nx pc lv (.int (nI b) :: .int (nI a) :: st) := V_iushr hd (by rw [nx_ushr ha hk]; exact k)
theorem V_icmp_eqN {a b : Nat} {off : Int} (tgt : Nat) (hd : decode M.2.1 pc = .ok (.if_icmp .eq off, 3)) (ht : (pc : Int) + off = (tgt : Int)) (ha : a < 2 ^ 31) (hb : b < 2 ^ 31) (kt : a = b → hv_V l D M X rm Q bc bs h nx tgt lv st) (kf : a ≠ b → hv_V l D M X rm Q bc bs h nx (pc + 3) lv st) : hv_V l D M X rm Q bc bs h nx pc lv (.int (nI b) :: .int (nI a) :: st) := V_icmp_eq tgt hd ht (fun q => kt ((nI_eq ha hb).mp q)) (fun q => kf (fun z => q ((nI_eq ha hb).mpr z)))
theorem V_if_eqN {a : Nat} {off : Int} (tgt : Nat) (hd : decode M.2.1 pc = .ok (.ifCond .eq off, 3)) (ht : (pc : Int) + off = (tgt : Int)) (ha : a < 2 ^ 31) (kt : a = 0 → hv_V l D M X rm Q bc bs h nx tgt lv st) (kf : a ≠ 0 → hv_V l D M X rm Q bc bs h nx (pc + 3) lv st) : hv_V l D M X rm Q bc bs h nx pc lv (.int (nI a) :: st) := V_if_eq tgt hd ht (fun q => kt ((nI_eq ha (by decide : 0 < 2 ^ 31)).mp q)) (fun q => kf (fun z => q ((nI_eq ha (by decide : 0 < 2 ^ 31)).mpr z)))
theorem V_icmp_neN {a b : Nat} {off : Int} (tgt : Nat) (hd : decode M.2.1 pc = .ok (.if_icmp .ne off, 3)) (ht : (pc : Int) + off = (tgt : Int)) (ha : a < 2 ^ 31) (hb : b < 2 ^ 31) (kt : a ≠ b → hv_V l D M X rm Q bc bs h nx tgt lv st) (kf : a = b → hv_V l D M X rm Q bc bs h nx (pc + 3) lv st) : hv_V l D M X rm Q bc bs h nx pc lv (.int (nI b) :: .int (nI a) :: st) := V_icmp_ne tgt hd ht (fun q => kt (fun z => q ((nI_eq ha hb).mpr z))) (fun q => kf ((nI_eq ha hb).mp q))
theorem V_if_neN {a : Nat} {off : Int} (tgt : Nat) (hd : decode M.2.1 pc = .ok (.ifCond .ne off, 3)) (ht : (pc : Int) + off = (tgt : Int)) (ha : a < 2 ^ 31) (kt : a ≠ 0 → hv_V l D M X rm Q bc bs h nx tgt lv st) (kf : a = 0 → hv_V l D M X rm Q bc bs h nx (pc + 3) lv st) : hv_V l D M X rm Q bc bs h nx pc lv (.int (nI a) :: st) := V_if_ne tgt hd ht (fun q => kt (fun z => q ((nI_eq ha (by decide : 0 < 2 ^ 31)).mpr z))) (fun q => kf ((nI_eq ha (by decide : 0 < 2 ^ 31)).mp q))
theorem V_icmp_ltN {a b : Nat} {off : Int} (tgt : Nat) (hd : decode M.2.1 pc = .ok (.if_icmp .lt off, 3)) (ht : (pc : Int) + off = (tgt : Int)) (ha : a < 2 ^ 31) (hb : b < 2 ^ 31) (kt : a < b → hv_V l D M X rm Q bc bs h nx tgt lv st) (kf : b ≤ a → hv_V l D M X rm Q bc bs h nx (pc + 3) lv st) : hv_V l D M X rm Q bc bs h nx pc lv (.int (nI b) :: .int (nI a) :: st) := V_icmp_lt tgt hd ht (fun q => kt ((nI_ltI ha hb).mp q)) (fun q => kf (Nat.not_lt.mp (fun z => q ((nI_ltI ha hb).mpr z))))
theorem V_icmp_geN {a b : Nat} {off : Int} (tgt : Nat) (hd : decode M.2.1 pc = .ok (.if_icmp .ge off, 3)) (ht : (pc : Int) + off = (tgt : Int)) (ha : a < 2 ^ 31) (hb : b < 2 ^ 31) (kt : b ≤ a → hv_V l D M X rm Q bc bs h nx tgt lv st) (kf : a < b → hv_V l D M X rm Q bc bs h nx (pc + 3) lv st) : hv_V l D M X rm Q bc bs h nx pc lv (.int (nI b) :: .int (nI a) :: st) := V_icmp_ge tgt hd ht (fun q => kt ((nI_leI hb ha).mp q)) (fun q => kf (Nat.not_le.mp (fun z => q ((nI_leI hb ha).mpr z))))
theorem V_icmp_gtN {a b : Nat} {off : Int} (tgt : Nat) (hd : decode M.2.1 pc = .ok (.if_icmp .gt off, 3)) (ht : (pc : Int) + off = (tgt : Int)) (ha : a < 2 ^ 31) (hb : b < 2 ^ 31) (kt : b < a → hv_V l D M X rm Q bc bs h nx tgt lv st) (kf : a ≤ b → hv_V l D M X rm Q bc bs h nx (pc + 3) lv st) : hv_V l D M X rm Q bc bs h nx pc lv (.int (nI b) :: .int (nI a) :: st) := V_icmp_gt tgt hd ht (fun q => kt ((nI_ltI hb ha).mp q)) (fun q => kf (Nat.not_lt.mp (fun z => q ((nI_ltI hb ha).mpr z))))
theorem V_if_gtN {a : Nat} {off : Int} (tgt : Nat) (hd : decode M.2.1 pc = .ok (.ifCond .gt off, 3)) (ht : (pc : Int) + off = (tgt : Int)) (ha : a < 2 ^ 31) (kt : 0 < a → hv_V l D M X rm Q bc bs h nx tgt lv st) (kf : a = 0 → hv_V l D M X rm Q bc bs h nx (pc + 3) lv st) : hv_V l D M X rm Q bc bs h nx pc lv (.int (nI a) :: st) := V_if_gt tgt hd ht (fun q => kt ((nI_ltI (by decide : 0 < 2 ^ 31) ha).mp q)) (fun q => kf (Nat.eq_zero_of_not_pos (fun z => q ((nI_ltI (by decide : 0 < 2 ^ 31) ha).mpr z))))
theorem V_icmp_leN {a b : Nat} {off : Int} (tgt : Nat) (hd : decode M.2.1 pc = .ok (.if_icmp .le off, 3)) (ht : (pc : Int) + off = (tgt : Int)) (ha : a < 2 ^ 31) (hb : b < 2 ^ 31) (kt : a ≤ b → hv_V l D M X rm Q bc bs h nx tgt lv st) (kf : b < a → hv_V l D M X rm Q bc bs h nx (pc + 3) lv st) : hv_V l D M X rm Q bc bs h nx pc lv (.int (nI b) :: .int (nI a) :: st) := V_icmp_le tgt hd ht (fun q => kt ((nI_leI ha hb).mp q)) (fun q => kf (Nat.not_le.mp (fun z => q ((nI_leI ha hb).mpr z))))
theorem V_if_leN {a : Nat} {off : Int} (tgt : Nat) (hd : decode M.2.1 pc = .ok (.ifCond .le off, 3)) (ht : (pc : Int) + off = (tgt : Int)) (ha : a < 2 ^ 31) (kt : a = 0 → hv_V l D M X rm Q bc bs h nx tgt lv st) (kf : 0 < a → hv_V l D M X rm Q bc bs h nx (pc + 3) lv st) : hv_V l D M X rm Q bc bs h nx pc lv (.int (nI a) :: st) := V_if_le tgt hd ht (fun q => kt (Nat.le_zero.mp ((nI_leI ha (by decide : 0 < 2 ^ 31)).mp q))) (fun q => kf (Nat.pos_of_ne_zero (fun z => q ((nI_leI ha (by decide : 0 < 2 ^ 31)).mpr (Nat.le_of_eq z)))))
theorem V_iincN_0 {r : List (Option Value)} {x : Nat} {n : Int} (v : Nat) (hd : decode M.2.1 pc = .ok (.iinc 0 n, 3)) (hv : Int32.ofInt n = nI v) (k : hv_V l D M X rm Q bc bs h nx (pc + 3) (some (.int (nI (x + v))) :: r) st) : hv_V l D M X rm Q bc bs h nx pc (some (.int (nI x)) :: r) st := V_iinc_0 (nI v) hd hv (by rw [nI_add]; exact k)
theorem V_iincN_1 {a0 : Option Value} {r : List (Option Value)} {x : Nat} {n : Int} (v : Nat) (hd : decode M.2.1 pc = .ok (.iinc 1 n, 3)) (hv : Int32.ofInt n = nI v) (hp : hv_ok a0 = true) (k : hv_V l D M X rm Q bc bs h nx (pc + 3) (a0 :: some (.int (nI (x + v))) :: r) st) : hv_V l D M X rm Q bc bs h nx pc (a0 :: some (.int (nI x)) :: r) st := V_iinc_1 (nI v) hd hv hp (by rw [nI_add]; exact k)
theorem V_iincN_2 {a0 a1 : Option Value} {r : List (Option Value)} {x : Nat} {n : Int} (v : Nat) (hd : decode M.2.1 pc = .ok (.iinc 2 n, 3)) (hv : Int32.ofInt n = nI v) (hp : hv_ok a1 = true) (k : hv_V l D M X rm Q bc bs h nx (pc + 3) (a0 :: a1 :: some (.int (nI (x + v))) :: r) st) : hv_V l D M X rm Q bc bs h nx pc (a0 :: a1 :: some (.int (nI x)) :: r) st := V_iinc_2 (nI v) hd hv hp (by rw [nI_add]; exact k)
theorem V_iincN_3 {a0 a1 a2 : Option Value} {r : List (Option Value)} {x : Nat} {n : Int} (v : Nat) (hd : decode M.2.1 pc = .ok (.iinc 3 n, 3)) (hv : Int32.ofInt n = nI v) (hp : hv_ok a2 = true) (k : hv_V l D M X rm Q bc bs h nx (pc + 3) (a0 :: a1 :: a2 :: some (.int (nI (x + v))) :: r) st) : hv_V l D M X rm Q bc bs h nx pc (a0 :: a1 :: a2 :: some (.int (nI x)) :: r) st := V_iinc_3 (nI v) hd hv hp (by rw [nI_add]; exact k)
theorem V_iincN_4 {a0 a1 a2 a3 : Option Value} {r : List (Option Value)} {x : Nat} {n : Int} (v : Nat) (hd : decode M.2.1 pc = .ok (.iinc 4 n, 3)) (hv : Int32.ofInt n = nI v) (hp : hv_ok a3 = true) (k : hv_V l D M X rm Q bc bs h nx (pc + 3) (a0 :: a1 :: a2 :: a3 :: some (.int (nI (x + v))) :: r) st) : hv_V l D M X rm Q bc bs h nx pc (a0 :: a1 :: a2 :: a3 :: some (.int (nI x)) :: r) st := V_iinc_4 (nI v) hd hv hp (by rw [nI_add]; exact k)
theorem V_iincN_5 {a0 a1 a2 a3 a4 : Option Value} {r : List (Option Value)} {x : Nat} {n : Int} (v : Nat) (hd : decode M.2.1 pc = .ok (.iinc 5 n, 3)) (hv : Int32.ofInt n = nI v) (hp : hv_ok a4 = true) (k : hv_V l D M X rm Q bc bs h nx (pc + 3) (a0 :: a1 :: a2 :: a3 :: a4 :: some (.int (nI (x + v))) :: r) st) : hv_V l D M X rm Q bc bs h nx pc (a0 :: a1 :: a2 :: a3 :: a4 :: some (.int (nI x)) :: r) st := V_iinc_5 (nI v) hd hv hp (by rw [nI_add]; exact k)
theorem V_iincN_6 {a0 a1 a2 a3 a4 a5 : Option Value} {r : List (Option Value)} {x : Nat} {n : Int} (v : Nat) (hd : decode M.2.1 pc = .ok (.iinc 6 n, 3)) (hv : Int32.ofInt n = nI v) (hp : hv_ok a5 = true) (k : hv_V l D M X rm Q bc bs h nx (pc + 3) (a0 :: a1 :: a2 :: a3 :: a4 :: a5 :: some (.int (nI (x + v))) :: r) st) : hv_V l D M X rm Q bc bs h nx pc (a0 :: a1 :: a2 :: a3 :: a4 :: a5 :: some (.int (nI x)) :: r) st := V_iinc_6 (nI v) hd hv hp (by rw [nI_add]; exact k)
theorem V_iincN_7 {a0 a1 a2 a3 a4 a5 a6 : Option Value} {r : List (Option Value)} {x : Nat} {n : Int} (v : Nat) (hd : decode M.2.1 pc = .ok (.iinc 7 n, 3)) (hv : Int32.ofInt n = nI v) (hp : hv_ok a6 = true) (k : hv_V l D M X rm Q bc bs h nx (pc + 3) (a0 :: a1 :: a2 :: a3 :: a4 :: a5 :: a6 :: some (.int (nI (x + v))) :: r) st) : hv_V l D M X rm Q bc bs h nx pc (a0 :: a1 :: a2 :: a3 :: a4 :: a5 :: a6 :: some (.int (nI x)) :: r) st := V_iinc_7 (nI v) hd hv hp (by rw [nI_add]; exact k)
theorem V_iincN_8 {a0 a1 a2 a3 a4 a5 a6 a7 : Option Value} {r : List (Option Value)} {x : Nat} {n : Int} (v : Nat) (hd : decode M.2.1 pc = .ok (.iinc 8 n, 3)) (hv : Int32.ofInt n = nI v) (hp : hv_ok a7 = true) (k : hv_V l D M X rm Q bc bs h nx (pc + 3) (a0 :: a1 :: a2 :: a3 :: a4 :: a5 :: a6 :: a7 :: some (.int (nI (x + v))) :: r) st) : hv_V l D M X rm Q bc bs h nx pc (a0 :: a1 :: a2 :: a3 :: a4 :: a5 :: a6 :: a7 :: some (.int (nI x)) :: r) st := V_iinc_8 (nI v) hd hv hp (by rw [nI_add]; exact k)
theorem V_iincN_9 {a0 a1 a2 a3 a4 a5 a6 a7 a8 : Option Value} {r : List (Option Value)} {x : Nat} {n : Int} (v : Nat) (hd : decode M.2.1 pc = .ok (.iinc 9 n, 3)) (hv : Int32.ofInt n = nI v) (hp : hv_ok a8 = true) (k : hv_V l D M X rm Q bc bs h nx (pc + 3) (a0 :: a1 :: a2 :: a3 :: a4 :: a5 :: a6 :: a7 :: a8 :: some (.int (nI (x + v))) :: r) st) : hv_V l D M X rm Q bc bs h nx pc (a0 :: a1 :: a2 :: a3 :: a4 :: a5 :: a6 :: a7 :: a8 :: some (.int (nI x)) :: r) st := V_iinc_9 (nI v) hd hv hp (by rw [nI_add]; exact k)
theorem V_iincN_10 {a0 a1 a2 a3 a4 a5 a6 a7 a8 a9 : Option Value} {r : List (Option Value)} {x : Nat} {n : Int} (v : Nat) (hd : decode M.2.1 pc = .ok (.iinc 10 n, 3)) (hv : Int32.ofInt n = nI v) (hp : hv_ok a9 = true) (k : hv_V l D M X rm Q bc bs h nx (pc + 3) (a0 :: a1 :: a2 :: a3 :: a4 :: a5 :: a6 :: a7 :: a8 :: a9 :: some (.int (nI (x + v))) :: r) st) : hv_V l D M X rm Q bc bs h nx pc (a0 :: a1 :: a2 :: a3 :: a4 :: a5 :: a6 :: a7 :: a8 :: a9 :: some (.int (nI x)) :: r) st := V_iinc_10 (nI v) hd hv hp (by rw [nI_add]; exact k)
theorem V_iincN_11 {a0 a1 a2 a3 a4 a5 a6 a7 a8 a9 a10 : Option Value} {r : List (Option Value)} {x : Nat} {n : Int} (v : Nat) (hd : decode M.2.1 pc = .ok (.iinc 11 n, 3)) (hv : Int32.ofInt n = nI v) (hp : hv_ok a10 = true) (k : hv_V l D M X rm Q bc bs h nx (pc + 3) (a0 :: a1 :: a2 :: a3 :: a4 :: a5 :: a6 :: a7 :: a8 :: a9 :: a10 :: some (.int (nI (x + v))) :: r) st) : hv_V l D M X rm Q bc bs h nx pc (a0 :: a1 :: a2 :: a3 :: a4 :: a5 :: a6 :: a7 :: a8 :: a9 :: a10 :: some (.int (nI x)) :: r) st := V_iinc_11 (nI v) hd hv hp (by rw [nI_add]; exact k)
theorem V_iincN_12 {a0 a1 a2 a3 a4 a5 a6 a7 a8 a9 a10 a11 : Option Value} {r : List (Option Value)} {x : Nat} {n : Int} (v : Nat) (hd : decode M.2.1 pc = .ok (.iinc 12 n, 3)) (hv : Int32.ofInt n = nI v) (hp : hv_ok a11 = true) (k : hv_V l D M X rm Q bc bs h nx (pc + 3) (a0 :: a1 :: a2 :: a3 :: a4 :: a5 :: a6 :: a7 :: a8 :: a9 :: a10 :: a11 :: some (.int (nI (x + v))) :: r) st) : hv_V l D M X rm Q bc bs h nx pc (a0 :: a1 :: a2 :: a3 :: a4 :: a5 :: a6 :: a7 :: a8 :: a9 :: a10 :: a11 :: some (.int (nI x)) :: r) st := V_iinc_12 (nI v) hd hv hp (by rw [nI_add]; exact k)
theorem V_iincN_13 {a0 a1 a2 a3 a4 a5 a6 a7 a8 a9 a10 a11 a12 : Option Value} {r : List (Option Value)} {x : Nat} {n : Int} (v : Nat) (hd : decode M.2.1 pc = .ok (.iinc 13 n, 3)) (hv : Int32.ofInt n = nI v) (hp : hv_ok a12 = true) (k : hv_V l D M X rm Q bc bs h nx (pc + 3) (a0 :: a1 :: a2 :: a3 :: a4 :: a5 :: a6 :: a7 :: a8 :: a9 :: a10 :: a11 :: a12 :: some (.int (nI (x + v))) :: r) st) : hv_V l D M X rm Q bc bs h nx pc (a0 :: a1 :: a2 :: a3 :: a4 :: a5 :: a6 :: a7 :: a8 :: a9 :: a10 :: a11 :: a12 :: some (.int (nI x)) :: r) st := V_iinc_13 (nI v) hd hv hp (by rw [nI_add]; exact k)
theorem V_iincN_14 {a0 a1 a2 a3 a4 a5 a6 a7 a8 a9 a10 a11 a12 a13 : Option Value} {r : List (Option Value)} {x : Nat} {n : Int} (v : Nat) (hd : decode M.2.1 pc = .ok (.iinc 14 n, 3)) (hv : Int32.ofInt n = nI v) (hp : hv_ok a13 = true) (k : hv_V l D M X rm Q bc bs h nx (pc + 3) (a0 :: a1 :: a2 :: a3 :: a4 :: a5 :: a6 :: a7 :: a8 :: a9 :: a10 :: a11 :: a12 :: a13 :: some (.int (nI (x + v))) :: r) st) : hv_V l D M X rm Q bc bs h nx pc (a0 :: a1 :: a2 :: a3 :: a4 :: a5 :: a6 :: a7 :: a8 :: a9 :: a10 :: a11 :: a12 :: a13 :: some (.int (nI x)) :: r) st := V_iinc_14 (nI v) hd hv hp (by rw [nI_add]; exact k)
theorem V_iincN_15 {a0 a1 a2 a3 a4 a5 a6 a7 a8 a9 a10 a11 a12 a13 a14 : Option Value} {r : List (Option Value)} {x : Nat} {n : Int} (v : Nat) (hd : decode M.2.1 pc = .ok (.iinc 15 n, 3)) (hv : Int32.ofInt n = nI v) (hp : hv_ok a14 = true) (k : hv_V l D M X rm Q bc bs h nx (pc + 3) (a0 :: a1 :: a2 :: a3 :: a4 :: a5 :: a6 :: a7 :: a8 :: a9 :: a10 :: a11 :: a12 :: a13 :: a14 :: some (.int (nI (x + v))) :: r) st) : hv_V l D M X rm Q bc bs h nx pc (a0 :: a1 :: a2 :: a3 :: a4 :: a5 :: a6 :: a7 :: a8 :: a9 :: a10 :: a11 :: a12 :: a13 :: a14 :: some (.int (nI x)) :: r) st := V_iinc_15 (nI v) hd hv hp (by rw [nI_add]; exact k)
theorem V_iincN_16 {a0 a1 a2 a3 a4 a5 a6 a7 a8 a9 a10 a11 a12 a13 a14 a15 : Option Value} {r : List (Option Value)} {x : Nat} {n : Int} (v : Nat) (hd : decode M.2.1 pc = .ok (.iinc 16 n, 3)) (hv : Int32.ofInt n = nI v) (hp : hv_ok a15 = true) (k : hv_V l D M X rm Q bc bs h nx (pc + 3) (a0 :: a1 :: a2 :: a3 :: a4 :: a5 :: a6 :: a7 :: a8 :: a9 :: a10 :: a11 :: a12 :: a13 :: a14 :: a15 :: some (.int (nI (x + v))) :: r) st) : hv_V l D M X rm Q bc bs h nx pc (a0 :: a1 :: a2 :: a3 :: a4 :: a5 :: a6 :: a7 :: a8 :: a9 :: a10 :: a11 :: a12 :: a13 :: a14 :: a15 :: some (.int (nI x)) :: r) st := V_iinc_16 (nI v) hd hv hp (by rw [nI_add]; exact k)
theorem V_iincN_17 {a0 a1 a2 a3 a4 a5 a6 a7 a8 a9 a10 a11 a12 a13 a14 a15 a16 : Option Value} {r : List (Option Value)} {x : Nat} {n : Int} (v : Nat) (hd : decode M.2.1 pc = .ok (.iinc 17 n, 3)) (hv : Int32.ofInt n = nI v) (hp : hv_ok a16 = true) (k : hv_V l D M X rm Q bc bs h nx (pc + 3) (a0 :: a1 :: a2 :: a3 :: a4 :: a5 :: a6 :: a7 :: a8 :: a9 :: a10 :: a11 :: a12 :: a13 :: a14 :: a15 :: a16 :: some (.int (nI (x + v))) :: r) st) : hv_V l D M X rm Q bc bs h nx pc (a0 :: a1 :: a2 :: a3 :: a4 :: a5 :: a6 :: a7 :: a8 :: a9 :: a10 :: a11 :: a12 :: a13 :: a14 :: a15 :: a16 :: some (.int (nI x)) :: r) st := V_iinc_17 (nI v) hd hv hp (by rw [nI_add]; exact k)
theorem V_iincN_18 {a0 a1 a2 a3 a4 a5 a6 a7 a8 a9 a10 a11 a12 a13 a14 a15 a16 a17 : Option Value} {r : List (Option Value)} {x : Nat} {n : Int} (v : Nat) (hd : decode M.2.1 pc = .ok (.iinc 18 n, 3)) (hv : Int32.ofInt n = nI v) (hp : hv_ok a17 = true) (k : hv_V l D M X rm Q bc bs h nx (pc + 3) (a0 :: a1 :: a2 :: a3 :: a4 :: a5 :: a6 :: a7 :: a8 :: a9 :: a10 :: a11 :: a12 :: a13 :: a14 :: a15 :: a16 :: a17 :: some (.int (nI (x + v))) :: r) st) : hv_V l D M X rm Q bc bs h nx pc (a0 :: a1 :: a2 :: a3 :: a4 :: a5 :: a6 :: a7 :: a8 :: a9 :: a10 :: a11 :: a12 :: a13 :: a14 :: a15 :: a16 :: a17 :: some (.int (nI x)) :: r) st := V_iinc_18 (nI v) hd hv hp (by rw [nI_add]; exact k)
theorem V_iincN_19 {a0 a1 a2 a3 a4 a5 a6 a7 a8 a9 a10 a11 a12 a13 a14 a15 a16 a17 a18 : Option Value} {r : List (Option Value)} {x : Nat} {n : Int} (v : Nat) (hd : decode M.2.1 pc = .ok (.iinc 19 n, 3)) (hv : Int32.ofInt n = nI v) (hp : hv_ok a18 = true) (k : hv_V l D M X rm Q bc bs h nx (pc + 3) (a0 :: a1 :: a2 :: a3 :: a4 :: a5 :: a6 :: a7 :: a8 :: a9 :: a10 :: a11 :: a12 :: a13 :: a14 :: a15 :: a16 :: a17 :: a18 :: some (.int (nI (x + v))) :: r) st) : hv_V l D M X rm Q bc bs h nx pc (a0 :: a1 :: a2 :: a3 :: a4 :: a5 :: a6 :: a7 :: a8 :: a9 :: a10 :: a11 :: a12 :: a13 :: a14 :: a15 :: a16 :: a17 :: a18 :: some (.int (nI x)) :: r) st := V_iinc_19 (nI v) hd hv hp (by rw [nI_add]; exact k)
theorem V_iastoreN {a n j x : Nat} {i : Int32} {f : Nat → Nat} (hd : decode M.2.1 pc = .ok (.iastore, 1)) (he : h a = some (eN n f)) (hi : hv_ix i n j) (kk : hv_V l D M X rm Q bc bs (hv_up h a (eN n (va_up f j x))) nx (pc + 1) lv st) : hv_V l D M X rm Q bc bs h nx pc lv (.int (nI x) :: .int i :: .ref a :: st) := V_iastore hd he hi (by rw [eN_up]; exact kk)
end HVN
end
section
-- BITS of naturals: how many ones; masks
def pc_n (a : Nat) : Nat → Nat
  | 0 => 0
  | n + 1 => pc_n a n + (a.testBit n).toNat
abbrev pc_ (a : Nat) : Nat := pc_n a 32
theorem pc_n_le (a : Nat) : ∀ n, pc_n a n ≤ n
  | 0 => Nat.le_refl _
  | n + 1 => by
    have := pc_n_le a n
    have h2 : (a.testBit n).toNat ≤ 1 := by cases a.testBit n <;> decide
    simp only [pc_n]; omega
theorem pc_n_mono {a b : Nat} (h : ∀ i, a.testBit i = true → b.testBit i = true) : ∀ n, pc_n a n ≤ pc_n b n
  | 0 => Nat.le_refl _
  | n + 1 => by
    have h1 := pc_n_mono h n
    have h2 : (a.testBit n).toNat ≤ (b.testBit n).toNat := by
      cases ha : a.testBit n
      · exact Nat.zero_le _
      · rw [h n ha]; exact Nat.le_refl _
    simp only [pc_n]; omega
theorem pc_n_0 : ∀ n, pc_n 0 n = 0
  | 0 => rfl
  | n + 1 => by simp [pc_n, pc_n_0 n]
theorem pc_n_or {a b : Nat} (h : ∀ i, ¬ (a.testBit i = true ∧ b.testBit i = true)) : ∀ n, pc_n (a ||| b) n = pc_n a n + pc_n b n
  | 0 => rfl
  | n + 1 => by
    have h1 := pc_n_or h n
    have h2 := h n
    simp only [pc_n, Nat.testBit_or, h1]
    cases ha : a.testBit n <;> cases hb : b.testBit n <;> simp_all <;> omega
/-- a number of which the bits from n on are 0 -/
theorem pc_n_lt {a n : Nat} (h : a < 2 ^ n) : ∀ k, pc_n a (n + k) = pc_n a n
  | 0 => rfl
  | k + 1 => by
    have h1 : a.testBit (n + k) = false := Nat.testBit_lt_two_pow (Nat.lt_of_lt_of_le h (Nat.pow_le_pow_right (by decide) (by omega)))
    rw [← Nat.add_assoc]
    simp only [pc_n, pc_n_lt h k, h1]
    rfl
theorem and_split (i : Nat) {a b c d : Nat} (hb : b < 2 ^ i) (hd : d < 2 ^ i) : (2 ^ i * a + b) &&& (2 ^ i * c + d) = 2 ^ i * (a &&& c) + (b &&& d) := by
  apply Nat.eq_of_testBit_eq
  intro j
  rw [Nat.testBit_and, Nat.testBit_two_pow_mul_add _ hb, Nat.testBit_two_pow_mul_add _ hd, Nat.testBit_two_pow_mul_add _ (Nat.lt_of_le_of_lt Nat.and_le_left hb)]
  split <;> simp
theorem pc_n_split (i a : Nat) {b : Nat} (hb : b < 2 ^ i) : ∀ n, pc_n (2 ^ i * a + b) (i + n) = pc_n b i + pc_n a n
  | 0 => by
    have : ∀ m, m ≤ i → pc_n (2 ^ i * a + b) m = pc_n b m := by
      intro m
      induction m with
      | zero => intro _; rfl
      | succ m ih =>
        intro hm
        simp only [pc_n, ih (by omega)]
        rw [Nat.testBit_two_pow_mul_add _ hb, if_pos (by omega)]
    rw [Nat.add_zero, this i (Nat.le_refl _)]
    rfl
  | n + 1 => by
    rw [← Nat.add_assoc]
    simp only [pc_n]
    rw [pc_n_split i a hb n, Nat.testBit_two_pow_mul_add _ hb, if_neg (by omega), show i + n - i = n by omega]
    omega
end
section
-- MORE RULES: answers, calls in their common shapes, Object's constructor, wide constants, arrays of booleans
/-- it returned w, and Q0 holds of the heap -/
def hv_ans (w : Option Value) (Q0 : hv_P → Nat → Prop) : hv_R → hv_P → Nat → Prop := fun r h' n' => r = .inl w ∧ Q0 h' n'
abbrev hv_same (h : hv_P) (nx : Nat) : hv_P → Nat → Prop := fun h' n' => h' = h ∧ n' = nx
theorem hv_ans_r {w : Option Value} {Q0 : hv_P → Nat → Prop} : ∀ r h' n', hv_ans w Q0 r h' n' → ∃ v, r = .inl v := fun _ _ _ q => ⟨w, q.1⟩
section HVM
variable {l : Launch} {D : hv_D} {M : hv_M} {X : State → (Nat → Prop) → Prop} {rm : Room} {Q : hv_R → hv_P → Nat → Prop} {bc bs : Nat} {h : hv_P} {nx pc : Nat} {lv : List (Option Value)} {st : List Value}
theorem V_ldcw {n : Nat} {v : Int32} (hd : decode M.2.1 pc = .ok (.ldc_w n, 3)) (hv : Cond.constant M.1.cls n v ∈ hv_tbl) (k : hv_V l D M X rm Q bc bs h nx (pc + 3) lv (.int v :: st)) : hv_V l D M X rm Q bc bs h nx pc lv st :=
  fun p e R s m args below meth c A H locs cells slots ls hC hW hb hl => lv_ldcw hC.1 hC.2.1 hC.own (hC.word _ hv) hd (k p e R s m args below meth c A H locs cells slots ls hC hW hb hl)
theorem V_objInit {idx a : Nat} (hd : decode M.2.1 pc = .ok (.invokespecial idx, 3)) (hL : Cond.methodLink M.1.cls idx objectInit ∈ hv_tbl) (hf : 1 ≤ rm.frames) (hlo : (st.map fun v => v.category).sum + 12 ≤ rm.locals) (k : hv_V l D M X rm Q bc bs h nx (pc + 3) lv st) : hv_V l D M X rm Q bc bs h nx pc lv (.ref a :: st) := by
  intro p e R s m args below meth c A H locs cells slots ls hC hW hb hl
  have hr := hC.room
  exact W.objInit hC.1 hC.2.1 hC.own (hC.word _ hL) (hC.word _ oi_inst) (hC.word _ oi_code) rfl (by rw [hC.maxL]; exact hl.1) rfl hd (by omega) (by show 2 * 0 + _ + 12 ≤ _; omega) (k p e R s m args below meth c A H locs cells slots ls hC hW hb hl)
theorem V_eqI {x y : Int32} (e : x = y) (k : hv_V l D M X rm Q bc bs h nx pc lv (.int y :: st)) : hv_V l D M X rm Q bc bs h nx pc lv (.int x :: st) := e ▸ k
theorem V_eqH {h2 : hv_P} (e : h = h2) (k : hv_V l D M X rm Q bc bs h2 nx pc lv st) : hv_V l D M X rm Q bc bs h nx pc lv st := e ▸ k
variable {M' : hv_M} {rm' : Room} {idx n : Nat} {As rest : List Value} {Q0 : hv_P → Nat → Prop} {w : Value}
theorem V_callS1 (hd : decode M.2.1 pc = .ok (.invokestatic idx, 3)) (hL : hv_mL M.1.cls idx M') (hB : hv_mB M' n) (hs : Cond.static M'.1 ∈ hv_tbl) (hN : hv_N l D M' rm' As h nx (hv_ans (some w) Q0)) (hst : st = As.reverse ++ rest) (hn : As.length = n) (hrm : Nat.ble (rest.map fun v => v.category).sum 8 = true) (hdd : Nat.ble (rm'.frames + 1) rm.frames = true) (hml : Nat.ble (19 + M'.2.2.1 + rm'.locals) rm.locals = true) (h0 : rm'.cells = 0) (h1 : rm'.slots = 0)
    (k : ∀ (h' : hv_P) (nx' : Nat), Q0 h' nx' → hv_V l D M X rm Q bc bs h' nx' (pc + 3) lv (w :: rest)) : hv_V l D M X rm Q bc bs h nx pc lv st :=
  V_static hd hL hB hs hN hv_ans_r hst hn (Nat.le_of_ble_eq_true hrm) (Nat.le_of_ble_eq_true hdd) (Nat.le_of_ble_eq_true hml) (by omega) (by omega) (fun v h' nx' q => by obtain ⟨q1, q2⟩ := q; cases q1; rw [h0, h1]; exact k h' nx' q2)
theorem V_callS0 (hd : decode M.2.1 pc = .ok (.invokestatic idx, 3)) (hL : hv_mL M.1.cls idx M') (hB : hv_mB M' n) (hs : Cond.static M'.1 ∈ hv_tbl) (hN : hv_N l D M' rm' As h nx (hv_ans none Q0)) (hst : st = As.reverse ++ rest) (hn : As.length = n) (hrm : Nat.ble (rest.map fun v => v.category).sum 8 = true) (hdd : Nat.ble (rm'.frames + 1) rm.frames = true) (hml : Nat.ble (19 + M'.2.2.1 + rm'.locals) rm.locals = true) (h0 : rm'.cells = 0) (h1 : rm'.slots = 0)
    (k : ∀ (h' : hv_P) (nx' : Nat), Q0 h' nx' → hv_V l D M X rm Q bc bs h' nx' (pc + 3) lv rest) : hv_V l D M X rm Q bc bs h nx pc lv st :=
  V_static hd hL hB hs hN hv_ans_r hst hn (Nat.le_of_ble_eq_true hrm) (Nat.le_of_ble_eq_true hdd) (Nat.le_of_ble_eq_true hml) (by omega) (by omega) (fun v h' nx' q => by obtain ⟨q1, q2⟩ := q; cases q1; rw [h0, h1]; exact k h' nx' q2)
theorem V_callV1 {b ci N : Nat} {T : u_T} {fs : List Value} (hd : decode M.2.1 pc = .ok (.invokevirtual idx, 3)) (hL : hv_mL M.1.cls idx M') (hB : hv_mB M' n) (hi : Cond.instanceMethod M'.1 ∈ hv_tbl) (hse : Cond.selects M'.1.cls M'.1 M'.1 ∈ hv_tbl) (hci : vwCl[ci]? = some (M'.1.cls, T, N)) (hob : h b = some (eO ci fs)) (hN : hv_N l D M' rm' (.ref b :: As) h nx (hv_ans (some w) Q0)) (hst : st = As.reverse ++ .ref b :: rest) (hn : As.length = n) (hrm : Nat.ble (rest.map fun v => v.category).sum 8 = true) (hdd : Nat.ble (rm'.frames + 1) rm.frames = true) (hml : Nat.ble (19 + M'.2.2.1 + rm'.locals) rm.locals = true) (h0 : rm'.cells = 0) (h1 : rm'.slots = 0)
    (k : ∀ (h' : hv_P) (nx' : Nat), Q0 h' nx' → hv_V l D M X rm Q bc bs h' nx' (pc + 3) lv (w :: rest)) : hv_V l D M X rm Q bc bs h nx pc lv st :=
  V_virtual hd hL hB hi hse hci hob hN hv_ans_r hst hn (Nat.le_of_ble_eq_true hrm) (Nat.le_of_ble_eq_true hdd) (Nat.le_of_ble_eq_true hml) (by omega) (by omega) (fun v h' nx' q => by obtain ⟨q1, q2⟩ := q; cases q1; rw [h0, h1]; exact k h' nx' q2)
theorem V_callV0 {b ci N : Nat} {T : u_T} {fs : List Value} (hd : decode M.2.1 pc = .ok (.invokevirtual idx, 3)) (hL : hv_mL M.1.cls idx M') (hB : hv_mB M' n) (hi : Cond.instanceMethod M'.1 ∈ hv_tbl) (hse : Cond.selects M'.1.cls M'.1 M'.1 ∈ hv_tbl) (hci : vwCl[ci]? = some (M'.1.cls, T, N)) (hob : h b = some (eO ci fs)) (hN : hv_N l D M' rm' (.ref b :: As) h nx (hv_ans none Q0)) (hst : st = As.reverse ++ .ref b :: rest) (hn : As.length = n) (hrm : Nat.ble (rest.map fun v => v.category).sum 8 = true) (hdd : Nat.ble (rm'.frames + 1) rm.frames = true) (hml : Nat.ble (19 + M'.2.2.1 + rm'.locals) rm.locals = true) (h0 : rm'.cells = 0) (h1 : rm'.slots = 0)
    (k : ∀ (h' : hv_P) (nx' : Nat), Q0 h' nx' → hv_V l D M X rm Q bc bs h' nx' (pc + 3) lv rest) : hv_V l D M X rm Q bc bs h nx pc lv st :=
  V_virtual hd hL hB hi hse hci hob hN hv_ans_r hst hn (Nat.le_of_ble_eq_true hrm) (Nat.le_of_ble_eq_true hdd) (Nat.le_of_ble_eq_true hml) (by omega) (by omega) (fun v h' nx' q => by obtain ⟨q1, q2⟩ := q; cases q1; rw [h0, h1]; exact k h' nx' q2)
end HVM
theorem hv_N.of' {l : Launch} {D : hv_D} {M : hv_M} {rm : Room} {As : List Value} {h : hv_P} {nx : Nat} {Q : hv_R → hv_P → Nat → Prop} (lv : List (Option Value)) (hy : plainFor M.1 = true) (hlv : hv_ent As M.2.2.1 = lv) (hle : Nat.ble lv.length M.2.2.1 = true) (hls : Nat.ble (lg_sl As).length M.2.2.1 = true) (k : hv_V l D M (fun _ _ => True) rm Q rm.cells rm.slots h nx 0 lv []) : hv_N l D M rm As h nx Q :=
  hv_N.of lv hy hlv (Nat.le_of_ble_eq_true hle) (Nat.le_of_ble_eq_true hls) k
end
section
-- OVERLAYS: the cells that a method speaks of, over a heap
def hv_ov (h : hv_P) : List (Nat × hv_E) → hv_P
  | [] => h
  | (a, e) :: r => hv_up (hv_ov h r) a e
theorem hv_up_c {h : hv_P} {a b : Nat} {e f : hv_E} (n : a ≠ b) : hv_up (hv_up h a e) b f = hv_up (hv_up h b f) a e := by
  funext q
  by_cases h1 : q = b
  · subst h1
    rw [hv_up_s, hv_up_n (Ne.symm n), hv_up_s]
  · by_cases h2 : q = a
    · subst h2
      rw [hv_up_n h1, hv_up_s, hv_up_s]
    · rw [hv_up_n h1, hv_up_n h2, hv_up_n h2, hv_up_n h1]
theorem hv_up_self {h : hv_P} {a : Nat} {e : hv_E} (he : h a = some e) : hv_up h a e = h := by
  funext q
  by_cases n : q = a
  · rw [n, hv_up_s, he]
  · rw [hv_up_n n]
section OV
variable {h : hv_P} {a : Nat} {e e' : hv_E} {r : List (Nat × hv_E)}
theorem og_0 : hv_ov h ((a, e) :: r) a = some e := hv_up_s
theorem ou_0 : hv_up (hv_ov h ((a, e) :: r)) a e' = hv_ov h ((a, e') :: r) := hv_up_up
theorem oa_0 (q : h a = some e) : hv_ov h [] a = some e := q
theorem ob_1 {a0 : Nat} {e0 : hv_E} (q0 : h a0 = some e0) : h = hv_ov h [(a0, e0)] := (hv_up_self q0).symm
theorem og_1 {a0 : Nat} {e0 : hv_E} (n0 : a ≠ a0) : hv_ov h ((a0, e0) :: (a, e) :: r) a = some e := (hv_up_n n0).trans (og_0 )
theorem ou_1 {a0 : Nat} {e0 : hv_E} (n0 : a ≠ a0) : hv_up (hv_ov h ((a0, e0) :: (a, e) :: r)) a e' = hv_ov h ((a0, e0) :: (a, e') :: r) := (hv_up_c (Ne.symm n0)).trans (congrArg (fun z => hv_up z a0 e0) (ou_0 ))
theorem oa_1 {a0 : Nat} {e0 : hv_E} (q : h a = some e) (n0 : a ≠ a0) : hv_ov h [(a0, e0)] a = some e := (hv_up_n n0).trans (oa_0 q )
theorem ob_2 {a0 a1 : Nat} {e0 e1 : hv_E} (q0 : h a0 = some e0) (q1 : h a1 = some e1) : h = hv_ov h [(a0, e0), (a1, e1)] := (hv_up_self q0).symm.trans (congrArg (fun z => hv_up z a0 e0) (ob_1 q1))
theorem og_2 {a0 a1 : Nat} {e0 e1 : hv_E} (n0 : a ≠ a0) (n1 : a ≠ a1) : hv_ov h ((a0, e0) :: (a1, e1) :: (a, e) :: r) a = some e := (hv_up_n n0).trans (og_1 n1)
theorem ou_2 {a0 a1 : Nat} {e0 e1 : hv_E} (n0 : a ≠ a0) (n1 : a ≠ a1) : hv_up (hv_ov h ((a0, e0) :: (a1, e1) :: (a, e) :: r)) a e' = hv_ov h ((a0, e0) :: (a1, e1) :: (a, e') :: r) := (hv_up_c (Ne.symm n0)).trans (congrArg (fun z => hv_up z a0 e0) (ou_1 n1))
theorem oa_2 {a0 a1 : Nat} {e0 e1 : hv_E} (q : h a = some e) (n0 : a ≠ a0) (n1 : a ≠ a1) : hv_ov h [(a0, e0), (a1, e1)] a = some e := (hv_up_n n0).trans (oa_1 q n1)
theorem ob_3 {a0 a1 a2 : Nat} {e0 e1 e2 : hv_E} (q0 : h a0 = some e0) (q1 : h a1 = some e1) (q2 : h a2 = some e2) : h = hv_ov h [(a0, e0), (a1, e1), (a2, e2)] := (hv_up_self q0).symm.trans (congrArg (fun z => hv_up z a0 e0) (ob_2 q1 q2))
theorem og_3 {a0 a1 a2 : Nat} {e0 e1 e2 : hv_E} (n0 : a ≠ a0) (n1 : a ≠ a1) (n2 : a ≠ a2) : hv_ov h ((a0, e0) :: (a1, e1) :: (a2, e2) :: (a, e) :: r) a = some e := (hv_up_n n0).trans (og_2 n1 n2)
theorem ou_3 {a0 a1 a2 : Nat} {e0 e1 e2 : hv_E} (n0 : a ≠ a0) (n1 : a ≠ a1) (n2 : a ≠ a2) : hv_up (hv_ov h ((a0, e0) :: (a1, e1) :: (a2, e2) :: (a, e) :: r)) a e' = hv_ov h ((a0, e0) :: (a1, e1) :: (a2, e2) :: (a, e') :: r) := (hv_up_c (Ne.symm n0)).trans (congrArg (fun z => hv_up z a0 e0) (ou_2 n1 n2))
theorem oa_3 {a0 a1 a2 : Nat} {e0 e1 e2 : hv_E} (q : h a = some e) (n0 : a ≠ a0) (n1 : a ≠ a1) (n2 : a ≠ a2) : hv_ov h [(a0, e0), (a1, e1), (a2, e2)] a = some e := (hv_up_n n0).trans (oa_2 q n1 n2)
theorem ob_4 {a0 a1 a2 a3 : Nat} {e0 e1 e2 e3 : hv_E} (q0 : h a0 = some e0) (q1 : h a1 = some e1) (q2 : h a2 = some e2) (q3 : h a3 = some e3) : h = hv_ov h [(a0, e0), (a1, e1), (a2, e2), (a3, e3)] := (hv_up_self q0).symm.trans (congrArg (fun z => hv_up z a0 e0) (ob_3 q1 q2 q3))
theorem og_4 {a0 a1 a2 a3 : Nat} {e0 e1 e2 e3 : hv_E} (n0 : a ≠ a0) (n1 : a ≠ a1) (n2 : a ≠ a2) (n3 : a ≠ a3) : hv_ov h ((a0, e0) :: (a1, e1) :: (a2, e2) :: (a3, e3) :: (a, e) :: r) a = some e := (hv_up_n n0).trans (og_3 n1 n2 n3)
theorem ou_4 {a0 a1 a2 a3 : Nat} {e0 e1 e2 e3 : hv_E} (n0 : a ≠ a0) (n1 : a ≠ a1) (n2 : a ≠ a2) (n3 : a ≠ a3) : hv_up (hv_ov h ((a0, e0) :: (a1, e1) :: (a2, e2) :: (a3, e3) :: (a, e) :: r)) a e' = hv_ov h ((a0, e0) :: (a1, e1) :: (a2, e2) :: (a3, e3) :: (a, e') :: r) := (hv_up_c (Ne.symm n0)).trans (congrArg (fun z => hv_up z a0 e0) (ou_3 n1 n2 n3))
theorem oa_4 {a0 a1 a2 a3 : Nat} {e0 e1 e2 e3 : hv_E} (q : h a = some e) (n0 : a ≠ a0) (n1 : a ≠ a1) (n2 : a ≠ a2) (n3 : a ≠ a3) : hv_ov h [(a0, e0), (a1, e1), (a2, e2), (a3, e3)] a = some e := (hv_up_n n0).trans (oa_3 q n1 n2 n3)
theorem ob_5 {a0 a1 a2 a3 a4 : Nat} {e0 e1 e2 e3 e4 : hv_E} (q0 : h a0 = some e0) (q1 : h a1 = some e1) (q2 : h a2 = some e2) (q3 : h a3 = some e3) (q4 : h a4 = some e4) : h = hv_ov h [(a0, e0), (a1, e1), (a2, e2), (a3, e3), (a4, e4)] := (hv_up_self q0).symm.trans (congrArg (fun z => hv_up z a0 e0) (ob_4 q1 q2 q3 q4))
theorem og_5 {a0 a1 a2 a3 a4 : Nat} {e0 e1 e2 e3 e4 : hv_E} (n0 : a ≠ a0) (n1 : a ≠ a1) (n2 : a ≠ a2) (n3 : a ≠ a3) (n4 : a ≠ a4) : hv_ov h ((a0, e0) :: (a1, e1) :: (a2, e2) :: (a3, e3) :: (a4, e4) :: (a, e) :: r) a = some e := (hv_up_n n0).trans (og_4 n1 n2 n3 n4)
theorem ou_5 {a0 a1 a2 a3 a4 : Nat} {e0 e1 e2 e3 e4 : hv_E} (n0 : a ≠ a0) (n1 : a ≠ a1) (n2 : a ≠ a2) (n3 : a ≠ a3) (n4 : a ≠ a4) : hv_up (hv_ov h ((a0, e0) :: (a1, e1) :: (a2, e2) :: (a3, e3) :: (a4, e4) :: (a, e) :: r)) a e' = hv_ov h ((a0, e0) :: (a1, e1) :: (a2, e2) :: (a3, e3) :: (a4, e4) :: (a, e') :: r) := (hv_up_c (Ne.symm n0)).trans (congrArg (fun z => hv_up z a0 e0) (ou_4 n1 n2 n3 n4))
theorem oa_5 {a0 a1 a2 a3 a4 : Nat} {e0 e1 e2 e3 e4 : hv_E} (q : h a = some e) (n0 : a ≠ a0) (n1 : a ≠ a1) (n2 : a ≠ a2) (n3 : a ≠ a3) (n4 : a ≠ a4) : hv_ov h [(a0, e0), (a1, e1), (a2, e2), (a3, e3), (a4, e4)] a = some e := (hv_up_n n0).trans (oa_4 q n1 n2 n3 n4)
theorem ob_6 {a0 a1 a2 a3 a4 a5 : Nat} {e0 e1 e2 e3 e4 e5 : hv_E} (q0 : h a0 = some e0) (q1 : h a1 = some e1) (q2 : h a2 = some e2) (q3 : h a3 = some e3) (q4 : h a4 = some e4) (q5 : h a5 = some e5) : h = hv_ov h [(a0, e0), (a1, e1), (a2, e2), (a3, e3), (a4, e4), (a5, e5)] := (hv_up_self q0).symm.trans (congrArg (fun z => hv_up z a0 e0) (ob_5 q1 q2 q3 q4 q5))
theorem og_6 {a0 a1 a2 a3 a4 a5 : Nat} {e0 e1 e2 e3 e4 e5 : hv_E} (n0 : a ≠ a0) (n1 : a ≠ a1) (n2 : a ≠ a2) (n3 : a ≠ a3) (n4 : a ≠ a4) (n5 : a ≠ a5) : hv_ov h ((a0, e0) :: (a1, e1) :: (a2, e2) :: (a3, e3) :: (a4, e4) :: (a5, e5) :: (a, e) :: r) a = some e := (hv_up_n n0).trans (og_5 n1 n2 n3 n4 n5)
theorem ou_6 {a0 a1 a2 a3 a4 a5 : Nat} {e0 e1 e2 e3 e4 e5 : hv_E} (n0 : a ≠ a0) (n1 : a ≠ a1) (n2 : a ≠ a2) (n3 : a ≠ a3) (n4 : a ≠ a4) (n5 : a ≠ a5) : hv_up (hv_ov h ((a0, e0) :: (a1, e1) :: (a2, e2) :: (a3, e3) :: (a4, e4) :: (a5, e5) :: (a, e) :: r)) a e' = hv_ov h ((a0, e0) :: (a1, e1) :: (a2, e2) :: (a3, e3) :: (a4, e4) :: (a5, e5) :: (a, e') :: r) := (hv_up_c (Ne.symm n0)).trans (congrArg (fun z => hv_up z a0 e0) (ou_5 n1 n2 n3 n4 n5))
theorem oa_6 {a0 a1 a2 a3 a4 a5 : Nat} {e0 e1 e2 e3 e4 e5 : hv_E} (q : h a = some e) (n0 : a ≠ a0) (n1 : a ≠ a1) (n2 : a ≠ a2) (n3 : a ≠ a3) (n4 : a ≠ a4) (n5 : a ≠ a5) : hv_ov h [(a0, e0), (a1, e1), (a2, e2), (a3, e3), (a4, e4), (a5, e5)] a = some e := (hv_up_n n0).trans (oa_5 q n1 n2 n3 n4 n5)
theorem ob_7 {a0 a1 a2 a3 a4 a5 a6 : Nat} {e0 e1 e2 e3 e4 e5 e6 : hv_E} (q0 : h a0 = some e0) (q1 : h a1 = some e1) (q2 : h a2 = some e2) (q3 : h a3 = some e3) (q4 : h a4 = some e4) (q5 : h a5 = some e5) (q6 : h a6 = some e6) : h = hv_ov h [(a0, e0), (a1, e1), (a2, e2), (a3, e3), (a4, e4), (a5, e5), (a6, e6)] := (hv_up_self q0).symm.trans (congrArg (fun z => hv_up z a0 e0) (ob_6 q1 q2 q3 q4 q5 q6))
theorem og_7 {a0 a1 a2 a3 a4 a5 a6 : Nat} {e0 e1 e2 e3 e4 e5 e6 : hv_E} (n0 : a ≠ a0) (n1 : a ≠ a1) (n2 : a ≠ a2) (n3 : a ≠ a3) (n4 : a ≠ a4) (n5 : a ≠ a5) (n6 : a ≠ a6) : hv_ov h ((a0, e0) :: (a1, e1) :: (a2, e2) :: (a3, e3) :: (a4, e4) :: (a5, e5) :: (a6, e6) :: (a, e) :: r) a = some e := (hv_up_n n0).trans (og_6 n1 n2 n3 n4 n5 n6)
theorem ou_7 {a0 a1 a2 a3 a4 a5 a6 : Nat} {e0 e1 e2 e3 e4 e5 e6 : hv_E} (n0 : a ≠ a0) (n1 : a ≠ a1) (n2 : a ≠ a2) (n3 : a ≠ a3) (n4 : a ≠ a4) (n5 : a ≠ a5) (n6 : a ≠ a6) : hv_up (hv_ov h ((a0, e0) :: (a1, e1) :: (a2, e2) :: (a3, e3) :: (a4, e4) :: (a5, e5) :: (a6, e6) :: (a, e) :: r)) a e' = hv_ov h ((a0, e0) :: (a1, e1) :: (a2, e2) :: (a3, e3) :: (a4, e4) :: (a5, e5) :: (a6, e6) :: (a, e') :: r) := (hv_up_c (Ne.symm n0)).trans (congrArg (fun z => hv_up z a0 e0) (ou_6 n1 n2 n3 n4 n5 n6))
theorem oa_7 {a0 a1 a2 a3 a4 a5 a6 : Nat} {e0 e1 e2 e3 e4 e5 e6 : hv_E} (q : h a = some e) (n0 : a ≠ a0) (n1 : a ≠ a1) (n2 : a ≠ a2) (n3 : a ≠ a3) (n4 : a ≠ a4) (n5 : a ≠ a5) (n6 : a ≠ a6) : hv_ov h [(a0, e0), (a1, e1), (a2, e2), (a3, e3), (a4, e4), (a5, e5), (a6, e6)] a = some e := (hv_up_n n0).trans (oa_6 q n1 n2 n3 n4 n5 n6)
theorem ob_8 {a0 a1 a2 a3 a4 a5 a6 a7 : Nat} {e0 e1 e2 e3 e4 e5 e6 e7 : hv_E} (q0 : h a0 = some e0) (q1 : h a1 = some e1) (q2 : h a2 = some e2) (q3 : h a3 = some e3) (q4 : h a4 = some e4) (q5 : h a5 = some e5) (q6 : h a6 = some e6) (q7 : h a7 = some e7) : h = hv_ov h [(a0, e0), (a1, e1), (a2, e2), (a3, e3), (a4, e4), (a5, e5), (a6, e6), (a7, e7)] := (hv_up_self q0).symm.trans (congrArg (fun z => hv_up z a0 e0) (ob_7 q1 q2 q3 q4 q5 q6 q7))
theorem og_8 {a0 a1 a2 a3 a4 a5 a6 a7 : Nat} {e0 e1 e2 e3 e4 e5 e6 e7 : hv_E} (n0 : a ≠ a0) (n1 : a ≠ a1) (n2 : a ≠ a2) (n3 : a ≠ a3) (n4 : a ≠ a4) (n5 : a ≠ a5) (n6 : a ≠ a6) (n7 : a ≠ a7) : hv_ov h ((a0, e0) :: (a1, e1) :: (a2, e2) :: (a3, e3) :: (a4, e4) :: (a5, e5) :: (a6, e6) :: (a7, e7) :: (a, e) :: r) a = some e := (hv_up_n n0).trans (og_7 n1 n2 n3 n4 n5 n6 n7)
theorem ou_8 {a0 a1 a2 a3 a4 a5 a6 a7 : Nat} {e0 e1 e2 e3 e4 e5 e6 e7 : hv_E} (n0 : a ≠ a0) (n1 : a ≠ a1) (n2 : a ≠ a2) (n3 : a ≠ a3) (n4 : a ≠ a4) (n5 : a ≠ a5) (n6 : a ≠ a6) (n7 : a ≠ a7) : hv_up (hv_ov h ((a0, e0) :: (a1, e1) :: (a2, e2) :: (a3, e3) :: (a4, e4) :: (a5, e5) :: (a6, e6) :: (a7, e7) :: (a, e) :: r)) a e' = hv_ov h ((a0, e0) :: (a1, e1) :: (a2, e2) :: (a3, e3) :: (a4, e4) :: (a5, e5) :: (a6, e6) :: (a7, e7) :: (a, e') :: r) := (hv_up_c (Ne.symm n0)).trans (congrArg (fun z => hv_up z a0 e0) (ou_7 n1 n2 n3 n4 n5 n6 n7))
theorem oa_8 {a0 a1 a2 a3 a4 a5 a6 a7 : Nat} {e0 e1 e2 e3 e4 e5 e6 e7 : hv_E} (q : h a = some e) (n0 : a ≠ a0) (n1 : a ≠ a1) (n2 : a ≠ a2) (n3 : a ≠ a3) (n4 : a ≠ a4) (n5 : a ≠ a5) (n6 : a ≠ a6) (n7 : a ≠ a7) : hv_ov h [(a0, e0), (a1, e1), (a2, e2), (a3, e3), (a4, e4), (a5, e5), (a6, e6), (a7, e7)] a = some e := (hv_up_n n0).trans (oa_7 q n1 n2 n3 n4 n5 n6 n7)
theorem ob_9 {a0 a1 a2 a3 a4 a5 a6 a7 a8 : Nat} {e0 e1 e2 e3 e4 e5 e6 e7 e8 : hv_E} (q0 : h a0 = some e0) (q1 : h a1 = some e1) (q2 : h a2 = some e2) (q3 : h a3 = some e3) (q4 : h a4 = some e4) (q5 : h a5 = some e5) (q6 : h a6 = some e6) (q7 : h a7 = some e7) (q8 : h a8 = some e8) : h = hv_ov h [(a0, e0), (a1, e1), (a2, e2), (a3, e3), (a4, e4), (a5, e5), (a6, e6), (a7, e7), (a8, e8)] := (hv_up_self q0).symm.trans (congrArg (fun z => hv_up z a0 e0) (ob_8 q1 q2 q3 q4 q5 q6 q7 q8))
theorem og_9 {a0 a1 a2 a3 a4 a5 a6 a7 a8 : Nat} {e0 e1 e2 e3 e4 e5 e6 e7 e8 : hv_E} (n0 : a ≠ a0) (n1 : a ≠ a1) (n2 : a ≠ a2) (n3 : a ≠ a3) (n4 : a ≠ a4) (n5 : a ≠ a5) (n6 : a ≠ a6) (n7 : a ≠ a7) (n8 : a ≠ a8) : hv_ov h ((a0, e0) :: (a1, e1) :: (a2, e2) :: (a3, e3) :: (a4, e4) :: (a5, e5) :: (a6, e6) :: (a7, e7) :: (a8, e8) :: (a, e) :: r) a = some e := (hv_up_n n0).trans (og_8 n1 n2 n3 n4 n5 n6 n7 n8)
theorem ou_9 {a0 a1 a2 a3 a4 a5 a6 a7 a8 : Nat} {e0 e1 e2 e3 e4 e5 e6 e7 e8 : hv_E} (n0 : a ≠ a0) (n1 : a ≠ a1) (n2 : a ≠ a2) (n3 : a ≠ a3) (n4 : a ≠ a4) (n5 : a ≠ a5) (n6 : a ≠ a6) (n7 : a ≠ a7) (n8 : a ≠ a8) : hv_up (hv_ov h ((a0, e0) :: (a1, e1) :: (a2, e2) :: (a3, e3) :: (a4, e4) :: (a5, e5) :: (a6, e6) :: (a7, e7) :: (a8, e8) :: (a, e) :: r)) a e' = hv_ov h ((a0, e0) :: (a1, e1) :: (a2, e2) :: (a3, e3) :: (a4, e4) :: (a5, e5) :: (a6, e6) :: (a7, e7) :: (a8, e8) :: (a, e') :: r) := (hv_up_c (Ne.symm n0)).trans (congrArg (fun z => hv_up z a0 e0) (ou_8 n1 n2 n3 n4 n5 n6 n7 n8))
theorem oa_9 {a0 a1 a2 a3 a4 a5 a6 a7 a8 : Nat} {e0 e1 e2 e3 e4 e5 e6 e7 e8 : hv_E} (q : h a = some e) (n0 : a ≠ a0) (n1 : a ≠ a1) (n2 : a ≠ a2) (n3 : a ≠ a3) (n4 : a ≠ a4) (n5 : a ≠ a5) (n6 : a ≠ a6) (n7 : a ≠ a7) (n8 : a ≠ a8) : hv_ov h [(a0, e0), (a1, e1), (a2, e2), (a3, e3), (a4, e4), (a5, e5), (a6, e6), (a7, e7), (a8, e8)] a = some e := (hv_up_n n0).trans (oa_8 q n1 n2 n3 n4 n5 n6 n7 n8)
theorem ob_10 {a0 a1 a2 a3 a4 a5 a6 a7 a8 a9 : Nat} {e0 e1 e2 e3 e4 e5 e6 e7 e8 e9 : hv_E} (q0 : h a0 = some e0) (q1 : h a1 = some e1) (q2 : h a2 = some e2) (q3 : h a3 = some e3) (q4 : h a4 = some e4) (q5 : h a5 = some e5) (q6 : h a6 = some e6) (q7 : h a7 = some e7) (q8 : h a8 = some e8) (q9 : h a9 = some e9) : h = hv_ov h [(a0, e0), (a1, e1), (a2, e2), (a3, e3), (a4, e4), (a5, e5), (a6, e6), (a7, e7), (a8, e8), (a9, e9)] := (hv_up_self q0).symm.trans (congrArg (fun z => hv_up z a0 e0) (ob_9 q1 q2 q3 q4 q5 q6 q7 q8 q9))
theorem og_10 {a0 a1 a2 a3 a4 a5 a6 a7 a8 a9 : Nat} {e0 e1 e2 e3 e4 e5 e6 e7 e8 e9 : hv_E} (n0 : a ≠ a0) (n1 : a ≠ a1) (n2 : a ≠ a2) (n3 : a ≠ a3) (n4 : a ≠ a4) (n5 : a ≠ a5) (n6 : a ≠ a6) (n7 : a ≠ a7) (n8 : a ≠ a8) (n9 : a ≠ a9) : hv_ov h ((a0, e0) :: (a1, e1) :: (a2, e2) :: (a3, e3) :: (a4, e4) :: (a5, e5) :: (a6, e6) :: (a7, e7) :: (a8, e8) :: (a9, e9) :: (a, e) :: r) a = some e := (hv_up_n n0).trans (og_9 n1 n2 n3 n4 n5 n6 n7 n8 n9)
theorem ou_10 {a0 a1 a2 a3 a4 a5 a6 a7 a8 a9 : Nat} {e0 e1 e2 e3 e4 e5 e6 e7 e8 e9 : hv_E} (n0 : a ≠ a0) (n1 : a ≠ a1) (n2 : a ≠ a2) (n3 : a ≠ a3) (n4 : a ≠ a4) (n5 : a ≠ a5) (n6 : a ≠ a6) (n7 : a ≠ a7) (n8 : a ≠ a8) (n9 : a ≠ a9) : hv_up (hv_ov h ((a0, e0) :: (a1, e1) :: (a2, e2) :: (a3, e3) :: (a4, e4) :: (a5, e5) :: (a6, e6) :: (a7, e7) :: (a8, e8) :: (a9, e9) :: (a, e) :: r)) a e' = hv_ov h ((a0, e0) :: (a1, e1) :: (a2, e2) :: (a3, e3) :: (a4, e4) :: (a5, e5) :: (a6, e6) :: (a7, e7) :: (a8, e8) :: (a9, e9) :: (a, e') :: r) := (hv_up_c (Ne.symm n0)).trans (congrArg (fun z => hv_up z a0 e0) (ou_9 n1 n2 n3 n4 n5 n6 n7 n8 n9))
theorem oa_10 {a0 a1 a2 a3 a4 a5 a6 a7 a8 a9 : Nat} {e0 e1 e2 e3 e4 e5 e6 e7 e8 e9 : hv_E} (q : h a = some e) (n0 : a ≠ a0) (n1 : a ≠ a1) (n2 : a ≠ a2) (n3 : a ≠ a3) (n4 : a ≠ a4) (n5 : a ≠ a5) (n6 : a ≠ a6) (n7 : a ≠ a7) (n8 : a ≠ a8) (n9 : a ≠ a9) : hv_ov h [(a0, e0), (a1, e1), (a2, e2), (a3, e3), (a4, e4), (a5, e5), (a6, e6), (a7, e7), (a8, e8), (a9, e9)] a = some e := (hv_up_n n0).trans (oa_9 q n1 n2 n3 n4 n5 n6 n7 n8 n9)
theorem ob_11 {a0 a1 a2 a3 a4 a5 a6 a7 a8 a9 a10 : Nat} {e0 e1 e2 e3 e4 e5 e6 e7 e8 e9 e10 : hv_E} (q0 : h a0 = some e0) (q1 : h a1 = some e1) (q2 : h a2 = some e2) (q3 : h a3 = some e3) (q4 : h a4 = some e4) (q5 : h a5 = some e5) (q6 : h a6 = some e6) (q7 : h a7 = some e7) (q8 : h a8 = some e8) (q9 : h a9 = some e9) (q10 : h a10 = some e10) : h = hv_ov h [(a0, e0), (a1, e1), (a2, e2), (a3, e3), (a4, e4), (a5, e5), (a6, e6), (a7, e7), (a8, e8), (a9, e9), (a10, e10)] := (hv_up_self q0).symm.trans (congrArg (fun z => hv_up z a0 e0) (ob_10 q1 q2 q3 q4 q5 q6 q7 q8 q9 q10))
theorem og_11 {a0 a1 a2 a3 a4 a5 a6 a7 a8 a9 a10 : Nat} {e0 e1 e2 e3 e4 e5 e6 e7 e8 e9 e10 : hv_E} (n0 : a ≠ a0) (n1 : a ≠ a1) (n2 : a ≠ a2) (n3 : a ≠ a3) (n4 : a ≠ a4) (n5 : a ≠ a5) (n6 : a ≠ a6) (n7 : a ≠ a7) (n8 : a ≠ a8) (n9 : a ≠ a9) (n10 : a ≠ a10) : hv_ov h ((a0, e0) :: (a1, e1) :: (a2, e2) :: (a3, e3) :: (a4, e4) :: (a5, e5) :: (a6, e6) :: (a7, e7) :: (a8, e8) :: (a9, e9) :: (a10, e10) :: (a, e) :: r) a = some e := (hv_up_n n0).trans (og_10 n1 n2 n3 n4 n5 n6 n7 n8 n9 n10)
theorem ou_11 {a0 a1 a2 a3 a4 a5 a6 a7 a8 a9 a10 : Nat} {e0 e1 e2 e3 e4 e5 e6 e7 e8 e9 e10 : hv_E} (n0 : a ≠ a0) (n1 : a ≠ a1) (n2 : a ≠ a2) (n3 : a ≠ a3) (n4 : a ≠ a4) (n5 : a ≠ a5) (n6 : a ≠ a6) (n7 : a ≠ a7) (n8 : a ≠ a8) (n9 : a ≠ a9) (n10 : a ≠ a10) : hv_up (hv_ov h ((a0, e0) :: (a1, e1) :: (a2, e2) :: (a3, e3) :: (a4, e4) :: (a5, e5) :: (a6, e6) :: (a7, e7) :: (a8, e8) :: (a9, e9) :: (a10, e10) :: (a, e) :: r)) a e' = hv_ov h ((a0, e0) :: (a1, e1) :: (a2, e2) :: (a3, e3) :: (a4, e4) :: (a5, e5) :: (a6, e6) :: (a7, e7) :: (a8, e8) :: (a9, e9) :: (a10, e10) :: (a, e') :: r) := (hv_up_c (Ne.symm n0)).trans (congrArg (fun z => hv_up z a0 e0) (ou_10 n1 n2 n3 n4 n5 n6 n7 n8 n9 n10))
theorem oa_11 {a0 a1 a2 a3 a4 a5 a6 a7 a8 a9 a10 : Nat} {e0 e1 e2 e3 e4 e5 e6 e7 e8 e9 e10 : hv_E} (q : h a = some e) (n0 : a ≠ a0) (n1 : a ≠ a1) (n2 : a ≠ a2) (n3 : a ≠ a3) (n4 : a ≠ a4) (n5 : a ≠ a5) (n6 : a ≠ a6) (n7 : a ≠ a7) (n8 : a ≠ a8) (n9 : a ≠ a9) (n10 : a ≠ a10) : hv_ov h [(a0, e0), (a1, e1), (a2, e2), (a3, e3), (a4, e4), (a5, e5), (a6, e6), (a7, e7), (a8, e8), (a9, e9), (a10, e10)] a = some e := (hv_up_n n0).trans (oa_10 q n1 n2 n3 n4 n5 n6 n7 n8 n9 n10)
theorem ob_12 {a0 a1 a2 a3 a4 a5 a6 a7 a8 a9 a10 a11 : Nat} {e0 e1 e2 e3 e4 e5 e6 e7 e8 e9 e10 e11 : hv_E} (q0 : h a0 = some e0) (q1 : h a1 = some e1) (q2 : h a2 = some e2) (q3 : h a3 = some e3) (q4 : h a4 = some e4) (q5 : h a5 = some e5) (q6 : h a6 = some e6) (q7 : h a7 = some e7) (q8 : h a8 = some e8) (q9 : h a9 = some e9) (q10 : h a10 = some e10) (q11 : h a11 = some e11) : h = hv_ov h [(a0, e0), (a1, e1), (a2, e2), (a3, e3), (a4, e4), (a5, e5), (a6, e6), (a7, e7), (a8, e8), (a9, e9), (a10, e10), (a11, e11)] := (hv_up_self q0).symm.trans (congrArg (fun z => hv_up z a0 e0) (ob_11 q1 q2 q3 q4 q5 q6 q7 q8 q9 q10 q11))
theorem og_12 {a0 a1 a2 a3 a4 a5 a6 a7 a8 a9 a10 a11 : Nat} {e0 e1 e2 e3 e4 e5 e6 e7 e8 e9 e10 e11 : hv_E} (n0 : a ≠ a0) (n1 : a ≠ a1) (n2 : a ≠ a2) (n3 : a ≠ a3) (n4 : a ≠ a4) (n5 : a ≠ a5) (n6 : a ≠ a6) (n7 : a ≠ a7) (n8 : a ≠ a8) (n9 : a ≠ a9) (n10 : a ≠ a10) (n11 : a ≠ a11) : hv_ov h ((a0, e0) :: (a1, e1) :: (a2, e2) :: (a3, e3) :: (a4, e4) :: (a5, e5) :: (a6, e6) :: (a7, e7) :: (a8, e8) :: (a9, e9) :: (a10, e10) :: (a11, e11) :: (a, e) :: r) a = some e := (hv_up_n n0).trans (og_11 n1 n2 n3 n4 n5 n6 n7 n8 n9 n10 n11)
theorem ou_12 {a0 a1 a2 a3 a4 a5 a6 a7 a8 a9 a10 a11 : Nat} {e0 e1 e2 e3 e4 e5 e6 e7 e8 e9 e10 e11 : hv_E} (n0 : a ≠ a0) (n1 : a ≠ a1) (n2 : a ≠ a2) (n3 : a ≠ a3) (n4 : a ≠ a4) (n5 : a ≠ a5) (n6 : a ≠ a6) (n7 : a ≠ a7) (n8 : a ≠ a8) (n9 : a ≠ a9) (n10 : a ≠ a10) (n11 : a ≠ a11) : hv_up (hv_ov h ((a0, e0) :: (a1, e1) :: (a2, e2) :: (a3, e3) :: (a4, e4) :: (a5, e5) :: (a6, e6) :: (a7, e7) :: (a8, e8) :: (a9, e9) :: (a10, e10) :: (a11, e11) :: (a, e) :: r)) a e' = hv_ov h ((a0, e0) :: (a1, e1) :: (a2, e2) :: (a3, e3) :: (a4, e4) :: (a5, e5) :: (a6, e6) :: (a7, e7) :: (a8, e8) :: (a9, e9) :: (a10, e10) :: (a11, e11) :: (a, e') :: r) := (hv_up_c (Ne.symm n0)).trans (congrArg (fun z => hv_up z a0 e0) (ou_11 n1 n2 n3 n4 n5 n6 n7 n8 n9 n10 n11))
theorem oa_12 {a0 a1 a2 a3 a4 a5 a6 a7 a8 a9 a10 a11 : Nat} {e0 e1 e2 e3 e4 e5 e6 e7 e8 e9 e10 e11 : hv_E} (q : h a = some e) (n0 : a ≠ a0) (n1 : a ≠ a1) (n2 : a ≠ a2) (n3 : a ≠ a3) (n4 : a ≠ a4) (n5 : a ≠ a5) (n6 : a ≠ a6) (n7 : a ≠ a7) (n8 : a ≠ a8) (n9 : a ≠ a9) (n10 : a ≠ a10) (n11 : a ≠ a11) : hv_ov h [(a0, e0), (a1, e1), (a2, e2), (a3, e3), (a4, e4), (a5, e5), (a6, e6), (a7, e7), (a8, e8), (a9, e9), (a10, e10), (a11, e11)] a = some e := (hv_up_n n0).trans (oa_11 q n1 n2 n3 n4 n5 n6 n7 n8 n9 n10 n11)
theorem ob_13 {a0 a1 a2 a3 a4 a5 a6 a7 a8 a9 a10 a11 a12 : Nat} {e0 e1 e2 e3 e4 e5 e6 e7 e8 e9 e10 e11 e12 : hv_E} (q0 : h a0 = some e0) (q1 : h a1 = some e1) (q2 : h a2 = some e2) (q3 : h a3 = some e3) (q4 : h a4 = some e4) (q5 : h a5 = some e5) (q6 : h a6 = some e6) (q7 : h a7 = some e7) (q8 : h a8 = some e8) (q9 : h a9 = some e9) (q10 : h a10 = some e10) (q11 : h a11 = some e11) (q12 : h a12 = some e12) : h = hv_ov h [(a0, e0), (a1, e1), (a2, e2), (a3, e3), (a4, e4), (a5, e5), (a6, e6), (a7, e7), (a8, e8), (a9, e9), (a10, e10), (a11, e11), (a12, e12)] := (hv_up_self q0).symm.trans (congrArg (fun z => hv_up z a0 e0) (ob_12 q1 q2 q3 q4 q5 q6 q7 q8 q9 q10 q11 q12))
end OV
section HVO
variable {l : Launch} {D : hv_D} {M : hv_M} {X : State → (Nat → Prop) → Prop} {rm : Room} {Q : hv_R → hv_P → Nat → Prop} {bc bs : Nat} {h : hv_P} {nx pc : Nat} {lv : List (Option Value)} {st : List Value}
/-- a field is written: the object, and the heap, as they then are -/
theorem V_put {h' : hv_P} {e' : hv_E} {idx ci k a : Nat} {ty : FieldType} {fs : List Value} {v : Value} (hd : decode M.2.1 pc = .ok (.putfield idx, 3)) (hf : hv_fp M.1.cls M.1.name idx ci k ty) (he : h a = some (eO ci fs)) (hl0 : Nat.ble (k + 1) fs.length = true) (hn : narrow ty v = v) (hfit : fits ty v = true) (he' : eO ci (fs.set k v) = e') (hh : hv_up h a e' = h') (kk : hv_V l D M X rm Q bc bs h' nx (pc + 3) lv st) : hv_V l D M X rm Q bc bs h nx pc lv (v :: .ref a :: st) := by
  subst he'
  subst hh
  exact V_putfield hd hf he (Nat.le_of_ble_eq_true hl0) hn hfit kk
theorem V_ist {h' : hv_P} {a n j : Nat} {i x : Int32} {f : Nat → Int32} (hd : decode M.2.1 pc = .ok (.iastore, 1)) (he : h a = some (eI n f)) (hi : hv_ix i n j) (hh : hv_up h a (eI n (va_up f j x)) = h') (kk : hv_V l D M X rm Q bc bs h' nx (pc + 1) lv st) : hv_V l D M X rm Q bc bs h nx pc lv (.int x :: .int i :: .ref a :: st) := by
  subst hh
  exact V_iastore hd he hi kk
theorem V_istN {h' : hv_P} {a n j x : Nat} {i : Int32} {f : Nat → Nat} (hd : decode M.2.1 pc = .ok (.iastore, 1)) (he : h a = some (eN n f)) (hi : hv_ix i n j) (hh : hv_up h a (eN n (va_up f j x)) = h') (kk : hv_V l D M X rm Q bc bs h' nx (pc + 1) lv st) : hv_V l D M X rm Q bc bs h nx pc lv (.int (nI x) :: .int i :: .ref a :: st) := by
  subst hh
  exact V_iastoreN hd he hi kk
theorem V_lst {h' : hv_P} {a n j : Nat} {i : Int32} {x : Int64} {f : Nat → Int64} (hd : decode M.2.1 pc = .ok (.lastore, 1)) (he : h a = some (eL n f)) (hi : hv_ix i n j) (hh : hv_up h a (eL n (va_up f j x)) = h') (kk : hv_V l D M X rm Q bc bs h' nx (pc + 1) lv st) : hv_V l D M X rm Q bc bs h nx pc lv (.long x :: .int i :: .ref a :: st) := by
  subst hh
  exact V_lastore hd he hi kk
end HVO
end
section
-- ONES: what Integer.bitCount computes
theorem pc_n_step (a i : Nat) : pc_n a i + (a / 2 ^ i &&& 1) = pc_n a (i + 1) := by
  have h : (a / 2 ^ i &&& 1) = (a.testBit i).toNat := by
    rw [Nat.and_one_is_mod, Nat.testBit_eq_decide_div_mod_eq]
    rcases Nat.mod_two_eq_zero_or_one (a / 2 ^ i) with h | h <;> simp [h]
  simp only [pc_n, h]
def m1_ : Nat → Nat
  | 0 => 0
  | n + 1 => 4 * m1_ n + 1
def m2_ : Nat → Nat
  | 0 => 0
  | n + 1 => 16 * m2_ n + 3
def m3_ : Nat → Nat
  | 0 => 0
  | n + 1 => 256 * m3_ n + 15
def f4_ : Nat → Nat → Nat
  | 0, _ => 0
  | n + 1, a => 4 * f4_ n (a / 4) + (a % 2 + a / 2 % 2)
def f16_ : Nat → Nat → Nat
  | 0, _ => 0
  | n + 1, x => 16 * f16_ n (x / 16) + (x % 4 + x / 4 % 4)
def f256_ : Nat → Nat → Nat
  | 0, _ => 0
  | n + 1, x => 256 * f256_ n (x / 256) + (x % 16 + x / 16 % 16)
theorem and4 (a b c d : Nat) (hb : b < 4) (hd : d < 4) : (4 * a + b) &&& (4 * c + d) = 4 * (a &&& c) + (b &&& d) := and_split 2 hb hd
theorem and16 (a b c d : Nat) (hb : b < 16) (hd : d < 16) : (16 * a + b) &&& (16 * c + d) = 16 * (a &&& c) + (b &&& d) := and_split 4 hb hd
theorem and256 (a b c d : Nat) (hb : b < 256) (hd : d < 256) : (256 * a + b) &&& (256 * c + d) = 256 * (a &&& c) + (b &&& d) := and_split 8 hb hd
theorem and_m1 : ∀ x, x < 4 → x &&& 1 = x % 2 := by decide
theorem and_m3 : ∀ x, x < 16 → x &&& 3 = x % 4 := by decide
theorem and_m15 : ∀ x, x < 256 → x &&& 15 = x % 16 := by decide +kernel
theorem f4_ok : ∀ (n a : Nat), a < 4 ^ n → (a / 2 &&& m1_ n) ≤ a ∧ a - (a / 2 &&& m1_ n) = f4_ n a
  | 0, a, h => by simp [m1_, f4_] at h ⊢; omega
  | n + 1, a, h => by
    have ih := f4_ok n (a / 4) (by rw [Nat.pow_succ] at h; omega)
    have e : a / 2 = 4 * (a / 4 / 2) + (a / 4 % 2 * 2 + a % 4 / 2) := by omega
    have e2 : (a / 2 &&& m1_ (n + 1)) = 4 * (a / 4 / 2 &&& m1_ n) + a / 2 % 2 := by
      rw [e]
      show (4 * (a / 4 / 2) + (a / 4 % 2 * 2 + a % 4 / 2)) &&& (4 * m1_ n + 1) = _
      rw [and4 _ _ _ _ (by omega) (by omega), and_m1 _ (by omega)]
      omega
    rw [e2]
    simp only [f4_]
    omega
theorem f16_ok : ∀ (n x : Nat), x < 16 ^ n → (x &&& m2_ n) + (x / 4 &&& m2_ n) = f16_ n x
  | 0, x, h => by simp [m2_, f16_]
  | n + 1, x, h => by
    have ih := f16_ok n (x / 16) (by rw [Nat.pow_succ] at h; omega)
    have e1 : (x &&& m2_ (n + 1)) = 16 * (x / 16 &&& m2_ n) + x % 4 := by
      have e : x = 16 * (x / 16) + x % 16 := by omega
      show x &&& (16 * m2_ n + 3) = _
      conv => lhs; rw [e]
      rw [and16 _ _ _ _ (by omega) (by omega), and_m3 _ (by omega)]
      omega
    have e2 : (x / 4 &&& m2_ (n + 1)) = 16 * (x / 16 / 4 &&& m2_ n) + x / 4 % 4 := by
      have e : x / 4 = 16 * (x / 16 / 4) + (x / 16 % 4 * 4 + x % 16 / 4) := by omega
      show x / 4 &&& (16 * m2_ n + 3) = _
      conv => lhs; rw [e]
      rw [and16 _ _ _ _ (by omega) (by omega), and_m3 _ (by omega)]
      omega
    rw [e1, e2]
    simp only [f16_]
    omega
/-- each of n digits of base 16 is at most 4 -/
def dg_ : Nat → Nat → Prop
  | 0, x => x = 0
  | n + 1, x => x % 16 ≤ 4 ∧ dg_ n (x / 16)
theorem dg_f16 : ∀ (n x : Nat), (∀ j, j < 2 * n → x / 4 ^ j % 4 ≤ 2) → dg_ n (f16_ n x)
  | 0, x, h => rfl
  | n + 1, x, h => by
    have h0 := h 0 (by omega)
    have h1 := h 1 (by omega)
    simp at h0 h1
    have e : f16_ (n + 1) x / 16 = f16_ n (x / 16) := by simp only [f16_]; omega
    refine ⟨by simp only [f16_]; omega, ?_⟩
    rw [e]
    refine dg_f16 n (x / 16) (fun j hj => ?_)
    have := h (j + 2) (by omega)
    rw [Nat.pow_succ, Nat.pow_succ, Nat.mul_assoc, Nat.mul_comm, ← Nat.div_div_eq_div_mul] at this
    exact this
theorem dg_small : ∀ {n x : Nat}, dg_ n x → x % 16 ≤ 4
  | 0, x, h => by simp [dg_] at h; omega
  | n + 1, x, h => h.1
theorem f256_ok : ∀ (n x : Nat), dg_ (2 * n) x → (x + x / 16) &&& m3_ n = f256_ n x
  | 0, x, h => by simp [m3_, f256_]
  | n + 1, x, h => by
    have h : dg_ (2 * n + 1 + 1) x := h
    obtain ⟨h1, h2, h3⟩ := h
    have h4 := dg_small h3
    have h5 : dg_ (2 * n) (x / 256) := by rw [show x / 256 = x / 16 / 16 by omega]; exact h3
    have ih := f256_ok n (x / 256) h5
    have e : x + x / 16 = 256 * (x / 256 + x / 256 / 16) + (16 * (x / 256 % 16) + 16 * (x / 16 % 16) + x % 16 + x / 16 % 16) := by omega
    show (x + x / 16) &&& (256 * m3_ n + 15) = _
    rw [e, and256 _ _ _ _ (by omega) (by omega), ih, and_m15 _ (by omega)]
    simp only [f256_]
    omega
theorem f4_dig : ∀ (n a j : Nat), f4_ n a / 4 ^ j % 4 ≤ 2
  | 0, a, j => by simp [f4_]
  | n + 1, a, 0 => by simp only [f4_]; omega
  | n + 1, a, j + 1 => by
    rw [Nat.pow_succ, Nat.mul_comm, ← Nat.div_div_eq_div_mul]
    have e : f4_ (n + 1) a / 4 = f4_ n (a / 4) := by simp only [f4_]; omega
    rw [e]
    exact f4_dig n (a / 4) j
theorem f4_lt : ∀ (n a : Nat), f4_ n a < 4 ^ n
  | 0, a => by simp [f4_]
  | n + 1, a => by
    have := f4_lt n (a / 4)
    rw [Nat.pow_succ]
    simp only [f4_]; omega
/-- the sum of n digits of base B -/
def ds_ (B : Nat) : Nat → Nat → Nat
  | 0, _ => 0
  | n + 1, x => x % B + ds_ B n (x / B)
theorem ds_4 : ∀ (n a : Nat), ds_ 4 n (f4_ n a) = pc_n a (2 * n)
  | 0, a => rfl
  | n + 1, a => by
    have ih := ds_4 n (a / 4)
    have e := pc_n_split 2 (a / 4) (b := a % 4) (Nat.mod_lt _ (by decide)) (2 * n)
    rw [show 2 ^ 2 * (a / 4) + a % 4 = a by omega] at e
    have e2 : pc_n (a % 4) 2 = a % 2 + a / 2 % 2 := by
      have : ∀ r, r < 4 → pc_n r 2 = r % 2 + r / 2 % 2 := by decide
      rw [this _ (Nat.mod_lt _ (by decide))]; omega
    have e3 : f4_ (n + 1) a / 4 = f4_ n (a / 4) := by simp only [f4_]; omega
    have e4 : f4_ (n + 1) a % 4 = a % 2 + a / 2 % 2 := by simp only [f4_]; omega
    rw [show 2 * (n + 1) = 2 + 2 * n by omega, e, e2]
    simp only [ds_, e3, e4, ih]
theorem ds_16 : ∀ (n x : Nat), ds_ 16 n (f16_ n x) = ds_ 4 (2 * n) x
  | 0, x => rfl
  | n + 1, x => by
    have ih := ds_16 n (x / 16)
    have e3 : f16_ (n + 1) x / 16 = f16_ n (x / 16) := by simp only [f16_]; omega
    have e4 : f16_ (n + 1) x % 16 = x % 4 + x / 4 % 4 := by simp only [f16_]; omega
    rw [show 2 * (n + 1) = 2 * n + 1 + 1 by omega]
    simp only [ds_, e3, e4, ih]
    rw [show x / 4 / 4 = x / 16 by omega]
    omega
theorem ds_256 : ∀ (n x : Nat), ds_ 256 n (f256_ n x) = ds_ 16 (2 * n) x
  | 0, x => rfl
  | n + 1, x => by
    have ih := ds_256 n (x / 256)
    have e3 : f256_ (n + 1) x / 256 = f256_ n (x / 256) := by simp only [f256_]; omega
    have e4 : f256_ (n + 1) x % 256 = x % 16 + x / 16 % 16 := by simp only [f256_]; omega
    rw [show 2 * (n + 1) = 2 * n + 1 + 1 by omega]
    simp only [ds_, e3, e4, ih]
    rw [show x / 16 / 16 = x / 256 by omega]
    omega
theorem f256_dig : ∀ (n x : Nat), f256_ n x < 256 ^ n ∧ f256_ n x % 256 ≤ 30
  | 0, x => by simp [f256_]
  | n + 1, x => by
    have := f256_dig n (x / 256)
    refine ⟨?_, by simp only [f256_]; omega⟩
    rw [Nat.pow_succ]
    simp only [f256_]; omega
def bc1_ (a : Nat) : Nat := a - (a / 2 ^ 1 &&& 1431655765)
def bc2_ (x : Nat) : Nat := (x &&& 858993459) + (x / 2 ^ 2 &&& 858993459)
def bc3_ (x : Nat) : Nat := (x + x / 2 ^ 4) &&& 252645135
theorem bc_all {a : Nat} (ha : a < 2 ^ 32) : (a / 2 ^ 1 &&& 1431655765) ≤ a ∧ bc1_ a < 2 ^ 32 ∧ bc2_ (bc1_ a) < 2 ^ 31 ∧ bc3_ (bc2_ (bc1_ a)) < 2 ^ 29 ∧
    ((bc3_ (bc2_ (bc1_ a)) + bc3_ (bc2_ (bc1_ a)) / 2 ^ 8) + (bc3_ (bc2_ (bc1_ a)) + bc3_ (bc2_ (bc1_ a)) / 2 ^ 8) / 2 ^ 16) &&& 63 = pc_ a := by
  have h1 := f4_ok 16 a ha
  rw [show m1_ 16 = 1431655765 from by decide] at h1
  have h2 : bc1_ a = f4_ 16 a := h1.2
  have h3 : f4_ 16 a < 16 ^ 8 := f4_lt 16 a
  have h4 := f16_ok 8 (f4_ 16 a) h3
  rw [show m2_ 8 = 858993459 from by decide] at h4
  have h5 : bc2_ (bc1_ a) = f16_ 8 (f4_ 16 a) := by rw [h2]; exact h4
  have h6 := f256_ok 4 (f16_ 8 (f4_ 16 a)) (dg_f16 8 _ (fun j _ => f4_dig 16 a j))
  rw [show m3_ 4 = 252645135 from by decide] at h6
  have h7 : bc3_ (bc2_ (bc1_ a)) = f256_ 4 (f16_ 8 (f4_ 16 a)) := by rw [h5]; exact h6
  have h8 : ds_ 256 4 (f256_ 4 (f16_ 8 (f4_ 16 a))) = pc_ a := by rw [ds_256, ds_16, ds_4]
  have h9 : pc_ a ≤ 32 := pc_n_le a 32
  have b1 : bc1_ a < 2 ^ 32 := Nat.lt_of_le_of_lt (Nat.sub_le _ _) ha
  have b2 : bc2_ (bc1_ a) < 2 ^ 31 := by
    have u1 : (bc1_ a &&& 858993459) ≤ 858993459 := Nat.and_le_right
    have u2 : (bc1_ a / 2 ^ 2 &&& 858993459) ≤ 858993459 := Nat.and_le_right
    unfold bc2_
    omega
  have b3 : bc3_ (bc2_ (bc1_ a)) < 2 ^ 29 := by
    have u1 : bc3_ (bc2_ (bc1_ a)) ≤ 252645135 := Nat.and_le_right
    omega
  refine ⟨h1.1, b1, b2, b3, ?_⟩
  rw [h7]
  have k0 := (f256_dig 4 (f16_ 8 (f4_ 16 a)))
  have d0 : ∀ (n x : Nat), f256_ (n + 1) x / 256 = f256_ n (x / 256) := fun n x => by simp only [f256_]; omega
  generalize hX : f16_ 8 (f4_ 16 a) = X at *
  have k1 := f256_dig 3 (X / 256)
  have k2 := f256_dig 2 (X / 256 / 256)
  have k3 := f256_dig 1 (X / 256 / 256 / 256)
  have e1 := d0 3 X
  have e2 := d0 2 (X / 256)
  have e3 := d0 1 (X / 256 / 256)
  generalize f256_ 4 X = x3 at *
  generalize f256_ 3 (X / 256) = x2 at *
  generalize f256_ 2 (X / 256 / 256) = x1 at *
  generalize f256_ 1 (X / 256 / 256 / 256) = x0 at *
  simp only [ds_, e1, e2, e3] at h8
  rw [show (63 : Nat) = 2 ^ 6 - 1 from rfl, Nat.and_two_pow_sub_one_eq_mod]
  obtain ⟨g0, q0⟩ : ∃ g, g = x3 % 256 := ⟨_, rfl⟩
  obtain ⟨g1, q1⟩ : ∃ g, g = x2 % 256 := ⟨_, rfl⟩
  obtain ⟨g2, q2⟩ : ∃ g, g = x1 % 256 := ⟨_, rfl⟩
  rw [← q0, ← q1, ← q2] at h8
  have r2 : x1 = 256 * x0 + g2 := by omega
  have r1 : x2 = 256 * x1 + g1 := by omega
  have r0 : x3 = 256 * x2 + g0 := by omega
  have l0 : x0 % 256 = x0 := Nat.mod_eq_of_lt (by have := k3.1; simpa using this)
  have l3 : x0 ≤ 30 := by have := k3.2; omega
  have l2 : g2 ≤ 30 := by have := k2.2; omega
  have l1 : g1 ≤ 30 := by have := k1.2; omega
  have l00 : g0 ≤ 30 := by have := k0.2; omega
  clear hX h1 h2 h3 h4 h5 h6 h7 b1 b2 b3 k0 k1 k2 k3 e1 e2 e3 d0 q0 q1 q2
  have t1 : x3 / 2 ^ 8 = x2 := by omega
  rw [t1]
  have t2 : (x3 + x2) / 2 ^ 16 = x1 + x0 := by omega
  rw [t2]
  omega
/-- a number with its lowest one at place t -/
theorem tz_and {a t : Nat} (ha : a < 2 ^ 31) (h : a % 2 ^ (t + 1) = 2 ^ t) (ht : t < 31) : (nI a ^^^ (-1)) &&& nI (a - 1) = nI (2 ^ t - 1) := by
  have hq : a = 2 ^ (t + 1) * (a / 2 ^ (t + 1)) + 2 ^ t := by have := Nat.div_add_mod a (2 ^ (t + 1)); omega
  have hp : 0 < 2 ^ t := Nat.two_pow_pos t
  have e1 : a - 1 = 2 ^ (t + 1) * (a / 2 ^ (t + 1)) + (2 ^ t - 1) := by omega
  have hlt : 2 ^ t < 2 ^ (t + 1) := Nat.pow_lt_pow_right (by decide) (by omega)
  have b1 : ∀ i, a.testBit i = if i < t + 1 then (2 ^ t).testBit i else (a / 2 ^ (t + 1)).testBit (i - (t + 1)) := fun i => by
    conv => lhs; rw [hq]
    rw [Nat.testBit_two_pow_mul_add _ hlt]
  have b2 : ∀ i, (a - 1).testBit i = if i < t + 1 then (2 ^ t - 1).testBit i else (a / 2 ^ (t + 1)).testBit (i - (t + 1)) := fun i => by
    conv => lhs; rw [e1]
    rw [Nat.testBit_two_pow_mul_add _ (by omega)]
  apply Int32.toBitVec_inj.1
  show (BitVec.ofNat 32 a ^^^ BitVec.allOnes 32) &&& BitVec.ofNat 32 (a - 1) = BitVec.ofNat 32 (2 ^ t - 1)
  apply BitVec.eq_of_getLsbD_eq
  intro i hi
  simp only [BitVec.getLsbD_and, BitVec.getLsbD_xor, BitVec.getLsbD_ofNat, BitVec.getLsbD_allOnes, hi, decide_true, Bool.true_and, b1, b2, Nat.testBit_two_pow_sub_one, Nat.testBit_two_pow]
  by_cases c : i < t + 1
  · rw [if_pos c, if_pos c]
    by_cases c2 : i = t
    · subst c2; simp
    · have c3 : i < t := by omega
      simp [c3]; omega
  · rw [if_neg c, if_neg c]
    have c3 : ¬ i < t := by omega
    simp [c3]
end
section
-- JDK: Math.max, Arrays.fill
/-- the greater one -/
def hv_mx (x y : Int32) : Int32 := if x < y then y else x
def hv_fill {α : Type} (f : Nat → α) (n : Nat) (x : α) : Nat → α := fun j => if j < n then x else f j
theorem hv_fill_0 {α : Type} {f : Nat → α} {x : α} : hv_fill f 0 x = f := by funext j; simp [hv_fill]
theorem hv_fill_s {α : Type} {f : Nat → α} {x : α} {i : Nat} : va_up (hv_fill f i x) i x = hv_fill f (i + 1) x := by
  funext j
  simp only [va_up, hv_fill]
  split
  · rw [if_pos (by omega)]
  · split
    · rw [if_pos (by omega)]
    · rw [if_neg (by omega)]
set_option maxRecDepth 100000 in
set_option maxHeartbeats 4000000 in
theorem c_max (l : Launch) (D : hv_D) (h : hv_P) (nx : Nat) (x y : Int32) : hv_N l D M_JM_max (hv_rm 0 0 0 0) [.int x, .int y] h nx (hv_ans (some (.int (hv_mx x y))) (hv_same h nx)) := by
  refine hv_N.of' [some (.int x), some (.int y)] (by decide +kernel) rfl rfl rfl ?_
  refine V_iload_n d_JM_max_0 rfl ?_
  refine V_iload_n d_JM_max_1 rfl ?_
  refine V_icmp_lt 9 d_JM_max_2 (by decide) (fun q => ?_) (fun q => ?_)
  · refine V_iload_n d_JM_max_9 rfl ?_
    exact V_ireturn d_JM_max_10 rfl ⟨by simp only [hv_mx, q, if_true, if_false], rfl, rfl⟩
  · refine V_iload_n d_JM_max_5 rfl ?_
    refine V_goto 10 d_JM_max_6 (by decide) ?_
    exact V_ireturn d_JM_max_10 rfl ⟨by simp only [hv_mx, q, if_true, if_false], rfl, rfl⟩

set_option maxRecDepth 100000 in
set_option maxHeartbeats 4000000 in
theorem c_fill (l : Launch) (D : hv_D) (h : hv_P) (nx : Nat) {a n : Nat} {f : Nat → Int32} (x : Int32) (ha : h a = some (eI n f)) (hn : n < 2 ^ 31) : hv_N l D M_JA_fill (hv_rm 0 0 0 0) [.ref a, .int x] h nx (hv_ans none (fun h' n' => h' = hv_up h a (eI n (hv_fill f n x)) ∧ n' = nx)) := by
  have lp : ∀ (k i : Nat), k = n - i → i ≤ n → hv_V l D M_JA_fill (fun _ _ => True) (hv_rm 0 0 0 0) (hv_ans none (fun h' n' => h' = hv_up h a (eI n (hv_fill f n x)) ∧ n' = nx)) 0 0 (hv_up h a (eI n (hv_fill f i x))) nx 5 [some (.ref a), some (.int x), some (.int (nI i)), some (.int (nI n))] [] := by
    intro k
    induction k using Nat.strongRecOn with
    | ind k ih =>
      intro i hk hi
      refine V_iload_n d_JA_fill_5 rfl ?_
      refine V_iload_n d_JA_fill_6 rfl ?_
      refine V_icmp_geN 20 d_JA_fill_7 (by decide) (by omega) hn (fun c => ?_) (fun c => ?_)
      · exact V_return d_JA_fill_20 rfl ⟨rfl, by rw [show n = i by omega], rfl⟩
      · refine V_aload_n d_JA_fill_10 rfl ?_
        refine V_iload_n d_JA_fill_11 rfl ?_
        refine V_iload_n d_JA_fill_12 rfl ?_
        refine V_ist d_JA_fill_13 hv_up_s ⟨rfl, c, hn⟩ (by rw [hv_up_up, hv_fill_s]) ?_
        refine V_iincN_2 1 d_JA_fill_14 rfl rfl ?_
        refine V_goto 5 d_JA_fill_17 (by decide) ?_
        exact ih (n - (i + 1)) (by omega) (i + 1) rfl (by omega)
  refine hv_N.of' [some (.ref a), some (.int x), none, none] (by decide +kernel) rfl rfl rfl ?_
  refine V_iconst (nI 0) d_JA_fill_0 rfl ?_
  refine V_istore_2 d_JA_fill_1 rfl ?_
  refine V_aload_n d_JA_fill_2 rfl ?_
  refine V_arraylength d_JA_fill_3 ha ⟨_, rfl⟩ ?_
  refine V_istore_3 d_JA_fill_4 rfl ?_
  refine V_eqH (h2 := hv_up h a (eI n (hv_fill f 0 x))) (by rw [hv_fill_0, hv_up_self ha]) ?_
  exact lp _ 0 rfl (Nat.zero_le _)

set_option maxRecDepth 100000 in
set_option maxHeartbeats 4000000 in
theorem c_bitCount (l : Launch) (D : hv_D) (h : hv_P) (nx : Nat) {a : Nat} (ha : a < 2 ^ 32) : hv_N l D M_JI_bitCount (hv_rm 0 0 0 0) [.int (nI a)] h nx (hv_ans (some (.int (nI (pc_ a)))) (hv_same h nx)) := by
  have B := bc_all ha
  refine hv_N.of' [some (.int (nI a))] (by decide +kernel) rfl rfl rfl ?_
  refine V_iload_n d_JI_bitCount_0 rfl ?_
  refine V_iload_n d_JI_bitCount_1 rfl ?_
  refine V_iconst (nI 1) d_JI_bitCount_2 rfl ?_
  refine V_iushrN d_JI_bitCount_3 (by omega) (by decide) ?_
  refine V_ldcw (v := nI 1431655765) d_JI_bitCount_4 kc_JI_265 ?_
  refine V_iandN d_JI_bitCount_7 ?_
  refine V_isubN d_JI_bitCount_8 B.1 ?_
  show hv_V l D M_JI_bitCount _ _ _ 0 0 h nx 9 _ [.int (nI (bc1_ a))]
  refine V_istore_0 d_JI_bitCount_9 ?_
  refine V_iload_n d_JI_bitCount_10 rfl ?_
  refine V_ldcw (v := nI 858993459) d_JI_bitCount_11 kc_JI_266 ?_
  refine V_iandN d_JI_bitCount_14 ?_
  refine V_iload_n d_JI_bitCount_15 rfl ?_
  refine V_iconst (nI 2) d_JI_bitCount_16 rfl ?_
  refine V_iushrN d_JI_bitCount_17 B.2.1 (by decide) ?_
  refine V_ldcw (v := nI 858993459) d_JI_bitCount_18 kc_JI_266 ?_
  refine V_iandN d_JI_bitCount_21 ?_
  refine V_iaddN d_JI_bitCount_22 ?_
  show hv_V l D M_JI_bitCount _ _ _ 0 0 h nx 23 _ [.int (nI (bc2_ (bc1_ a)))]
  refine V_istore_0 d_JI_bitCount_23 ?_
  refine V_iload_n d_JI_bitCount_24 rfl ?_
  refine V_iload_n d_JI_bitCount_25 rfl ?_
  refine V_iconst (nI 4) d_JI_bitCount_26 rfl ?_
  refine V_iushrN d_JI_bitCount_27 (by have := B.2.2.1; omega) (by decide) ?_
  refine V_iaddN d_JI_bitCount_28 ?_
  refine V_ldcw (v := nI 252645135) d_JI_bitCount_29 kc_JI_267 ?_
  refine V_iandN d_JI_bitCount_32 ?_
  show hv_V l D M_JI_bitCount _ _ _ 0 0 h nx 33 _ [.int (nI (bc3_ (bc2_ (bc1_ a))))]
  refine V_istore_0 d_JI_bitCount_33 ?_
  refine V_iload_n d_JI_bitCount_34 rfl ?_
  refine V_iload_n d_JI_bitCount_35 rfl ?_
  refine V_bipush (nI 8) d_JI_bitCount_36 rfl ?_
  refine V_iushrN d_JI_bitCount_38 (by have := B.2.2.2.1; omega) (by decide) ?_
  refine V_iaddN d_JI_bitCount_39 ?_
  refine V_istore_0 d_JI_bitCount_40 ?_
  refine V_iload_n d_JI_bitCount_41 rfl ?_
  refine V_iload_n d_JI_bitCount_42 rfl ?_
  refine V_bipush (nI 16) d_JI_bitCount_43 rfl ?_
  refine V_iushrN d_JI_bitCount_45 (by have := B.2.2.2.1; omega) (by decide) ?_
  refine V_iaddN d_JI_bitCount_46 ?_
  refine V_istore_0 d_JI_bitCount_47 ?_
  refine V_iload_n d_JI_bitCount_48 rfl ?_
  refine V_bipush (nI 63) d_JI_bitCount_49 rfl ?_
  refine V_iandN d_JI_bitCount_51 ?_
  exact V_ireturn d_JI_bitCount_52 rfl ⟨by rw [B.2.2.2.2], rfl, rfl⟩

set_option maxRecDepth 100000 in
set_option maxHeartbeats 4000000 in
theorem c_ntz (l : Launch) (D : hv_D) (h : hv_P) (nx : Nat) {a : Nat} (t : Nat) (ha : a < 2 ^ 31) (ht : a % 2 ^ (t + 1) = 2 ^ t) (ht2 : t < 31) : hv_N l D M_JI_numberOfTrailingZeros (hv_rm 0 0 0 0) [.int (nI a)] h nx (hv_ans (some (.int (nI t))) (hv_same h nx)) := by
  have ha0 : 1 ≤ a := by
    rcases Nat.eq_zero_or_pos a with q | q
    · subst q; have := Nat.two_pow_pos t; simp at ht; omega
    · exact q
  have T0 : ∀ t, t < 31 → 2 ^ t - 1 < 2 ^ 31 ∧ (2 ^ t - 1 = 0 → (2 ^ t - 1 &&& 32) = t) := by decide
  refine hv_N.of' [some (.int (nI a)), none] (by decide +kernel) rfl rfl rfl ?_
  refine V_iload_n d_JI_numberOfTrailingZeros_0 rfl ?_
  refine V_iconst (-1) d_JI_numberOfTrailingZeros_1 rfl ?_
  refine V_ixor d_JI_numberOfTrailingZeros_2 ?_
  refine V_iload_n d_JI_numberOfTrailingZeros_3 rfl ?_
  refine V_iconst (nI 1) d_JI_numberOfTrailingZeros_4 rfl ?_
  refine V_isubN d_JI_numberOfTrailingZeros_5 (by omega) ?_
  refine V_iand d_JI_numberOfTrailingZeros_6 ?_
  refine V_eqI (tz_and ha ht ht2) ?_
  refine V_istore_0 d_JI_numberOfTrailingZeros_7 ?_
  refine V_iload_n d_JI_numberOfTrailingZeros_8 rfl ?_
  refine V_if_gtN 17 d_JI_numberOfTrailingZeros_9 (by decide) (T0 t ht2).1 (fun c0 => ?_) (fun c0 => ?_)
  · refine V_iconst (nI 1) d_JI_numberOfTrailingZeros_17 rfl ?_
    refine V_istore_1 d_JI_numberOfTrailingZeros_18 rfl ?_
    refine V_iload_n d_JI_numberOfTrailingZeros_19 rfl ?_
    refine V_ldcw (v := nI 65536) d_JI_numberOfTrailingZeros_20 kc_JI_264 ?_
    refine V_icmp_leN 34 d_JI_numberOfTrailingZeros_23 (by decide) (T0 t ht2).1 (by decide) (fun c1 => ?_) (fun c1 => ?_)
    · refine V_iload_n d_JI_numberOfTrailingZeros_34 rfl ?_
      refine V_sipush (nI 256) d_JI_numberOfTrailingZeros_35 rfl ?_
      refine V_icmp_leN 49 d_JI_numberOfTrailingZeros_38 (by decide) (by have := (T0 t ht2).1; omega) (by decide) (fun c2 => ?_) (fun c2 => ?_)
      · refine V_iload_n d_JI_numberOfTrailingZeros_49 rfl ?_
        refine V_bipush (nI 16) d_JI_numberOfTrailingZeros_50 rfl ?_
        refine V_icmp_leN 62 d_JI_numberOfTrailingZeros_52 (by decide) (by have := (T0 t ht2).1; omega) (by decide) (fun c3 => ?_) (fun c3 => ?_)
        · refine V_iload_n d_JI_numberOfTrailingZeros_62 rfl ?_
          refine V_iconst (nI 4) d_JI_numberOfTrailingZeros_63 rfl ?_
          refine V_icmp_leN 74 d_JI_numberOfTrailingZeros_64 (by decide) (by have := (T0 t ht2).1; omega) (by decide) (fun c4 => ?_) (fun c4 => ?_)
          · refine V_iload_n d_JI_numberOfTrailingZeros_74 rfl ?_
            refine V_iload_n d_JI_numberOfTrailingZeros_75 rfl ?_
            refine V_iconst (nI 1) d_JI_numberOfTrailingZeros_76 rfl ?_
            refine V_iushrN d_JI_numberOfTrailingZeros_77 (by have := (T0 t ht2).1; omega) (by decide) ?_
            refine V_iaddN d_JI_numberOfTrailingZeros_78 ?_
            exact V_ireturn d_JI_numberOfTrailingZeros_79 rfl ⟨congrArg (fun z => Sum.inl (some (Value.int (nI z)))) (by have cc := And.intro c0 (And.intro c1 (And.intro c2 (And.intro c3 c4))); clear ht ha ha0 T0 c0 c1 c2 c3 c4; revert t; decide), rfl, rfl⟩
          · refine V_iincN_1 2 d_JI_numberOfTrailingZeros_67 rfl rfl ?_
            refine V_iload_n d_JI_numberOfTrailingZeros_70 rfl ?_
            refine V_iconst (nI 2) d_JI_numberOfTrailingZeros_71 rfl ?_
            refine V_iushrN d_JI_numberOfTrailingZeros_72 (by have := (T0 t ht2).1; omega) (by decide) ?_
            refine V_istore_0 d_JI_numberOfTrailingZeros_73 ?_
            refine V_iload_n d_JI_numberOfTrailingZeros_74 rfl ?_
            refine V_iload_n d_JI_numberOfTrailingZeros_75 rfl ?_
            refine V_iconst (nI 1) d_JI_numberOfTrailingZeros_76 rfl ?_
            refine V_iushrN d_JI_numberOfTrailingZeros_77 (by have := (T0 t ht2).1; omega) (by decide) ?_
            refine V_iaddN d_JI_numberOfTrailingZeros_78 ?_
            exact V_ireturn d_JI_numberOfTrailingZeros_79 rfl ⟨congrArg (fun z => Sum.inl (some (Value.int (nI z)))) (by have cc := And.intro c0 (And.intro c1 (And.intro c2 (And.intro c3 c4))); clear ht ha ha0 T0 c0 c1 c2 c3 c4; revert t; decide), rfl, rfl⟩
        · refine V_iincN_1 4 d_JI_numberOfTrailingZeros_55 rfl rfl ?_
          refine V_iload_n d_JI_numberOfTrailingZeros_58 rfl ?_
          refine V_iconst (nI 4) d_JI_numberOfTrailingZeros_59 rfl ?_
          refine V_iushrN d_JI_numberOfTrailingZeros_60 (by have := (T0 t ht2).1; omega) (by decide) ?_
          refine V_istore_0 d_JI_numberOfTrailingZeros_61 ?_
          refine V_iload_n d_JI_numberOfTrailingZeros_62 rfl ?_
          refine V_iconst (nI 4) d_JI_numberOfTrailingZeros_63 rfl ?_
          refine V_icmp_leN 74 d_JI_numberOfTrailingZeros_64 (by decide) (by have := (T0 t ht2).1; omega) (by decide) (fun c4 => ?_) (fun c4 => ?_)
          · refine V_iload_n d_JI_numberOfTrailingZeros_74 rfl ?_
            refine V_iload_n d_JI_numberOfTrailingZeros_75 rfl ?_
            refine V_iconst (nI 1) d_JI_numberOfTrailingZeros_76 rfl ?_
            refine V_iushrN d_JI_numberOfTrailingZeros_77 (by have := (T0 t ht2).1; omega) (by decide) ?_
            refine V_iaddN d_JI_numberOfTrailingZeros_78 ?_
            exact V_ireturn d_JI_numberOfTrailingZeros_79 rfl ⟨congrArg (fun z => Sum.inl (some (Value.int (nI z)))) (by have cc := And.intro c0 (And.intro c1 (And.intro c2 (And.intro c3 c4))); clear ht ha ha0 T0 c0 c1 c2 c3 c4; revert t; decide), rfl, rfl⟩
          · refine V_iincN_1 2 d_JI_numberOfTrailingZeros_67 rfl rfl ?_
            refine V_iload_n d_JI_numberOfTrailingZeros_70 rfl ?_
            refine V_iconst (nI 2) d_JI_numberOfTrailingZeros_71 rfl ?_
            refine V_iushrN d_JI_numberOfTrailingZeros_72 (by have := (T0 t ht2).1; omega) (by decide) ?_
            refine V_istore_0 d_JI_numberOfTrailingZeros_73 ?_
            refine V_iload_n d_JI_numberOfTrailingZeros_74 rfl ?_
            refine V_iload_n d_JI_numberOfTrailingZeros_75 rfl ?_
            refine V_iconst (nI 1) d_JI_numberOfTrailingZeros_76 rfl ?_
            refine V_iushrN d_JI_numberOfTrailingZeros_77 (by have := (T0 t ht2).1; omega) (by decide) ?_
            refine V_iaddN d_JI_numberOfTrailingZeros_78 ?_
            exact V_ireturn d_JI_numberOfTrailingZeros_79 rfl ⟨congrArg (fun z => Sum.inl (some (Value.int (nI z)))) (by have cc := And.intro c0 (And.intro c1 (And.intro c2 (And.intro c3 c4))); clear ht ha ha0 T0 c0 c1 c2 c3 c4; revert t; decide), rfl, rfl⟩
      · refine V_iincN_1 8 d_JI_numberOfTrailingZeros_41 rfl rfl ?_
        refine V_iload_n d_JI_numberOfTrailingZeros_44 rfl ?_
        refine V_bipush (nI 8) d_JI_numberOfTrailingZeros_45 rfl ?_
        refine V_iushrN d_JI_numberOfTrailingZeros_47 (by have := (T0 t ht2).1; omega) (by decide) ?_
        refine V_istore_0 d_JI_numberOfTrailingZeros_48 ?_
        refine V_iload_n d_JI_numberOfTrailingZeros_49 rfl ?_
        refine V_bipush (nI 16) d_JI_numberOfTrailingZeros_50 rfl ?_
        refine V_icmp_leN 62 d_JI_numberOfTrailingZeros_52 (by decide) (by have := (T0 t ht2).1; omega) (by decide) (fun c3 => ?_) (fun c3 => ?_)
        · refine V_iload_n d_JI_numberOfTrailingZeros_62 rfl ?_
          refine V_iconst (nI 4) d_JI_numberOfTrailingZeros_63 rfl ?_
          refine V_icmp_leN 74 d_JI_numberOfTrailingZeros_64 (by decide) (by have := (T0 t ht2).1; omega) (by decide) (fun c4 => ?_) (fun c4 => ?_)
          · refine V_iload_n d_JI_numberOfTrailingZeros_74 rfl ?_
            refine V_iload_n d_JI_numberOfTrailingZeros_75 rfl ?_
            refine V_iconst (nI 1) d_JI_numberOfTrailingZeros_76 rfl ?_
            refine V_iushrN d_JI_numberOfTrailingZeros_77 (by have := (T0 t ht2).1; omega) (by decide) ?_
            refine V_iaddN d_JI_numberOfTrailingZeros_78 ?_
            exact V_ireturn d_JI_numberOfTrailingZeros_79 rfl ⟨congrArg (fun z => Sum.inl (some (Value.int (nI z)))) (by have cc := And.intro c0 (And.intro c1 (And.intro c2 (And.intro c3 c4))); clear ht ha ha0 T0 c0 c1 c2 c3 c4; revert t; decide), rfl, rfl⟩
          · refine V_iincN_1 2 d_JI_numberOfTrailingZeros_67 rfl rfl ?_
            refine V_iload_n d_JI_numberOfTrailingZeros_70 rfl ?_
            refine V_iconst (nI 2) d_JI_numberOfTrailingZeros_71 rfl ?_
            refine V_iushrN d_JI_numberOfTrailingZeros_72 (by have := (T0 t ht2).1; omega) (by decide) ?_
            refine V_istore_0 d_JI_numberOfTrailingZeros_73 ?_
            refine V_iload_n d_JI_numberOfTrailingZeros_74 rfl ?_
            refine V_iload_n d_JI_numberOfTrailingZeros_75 rfl ?_
            refine V_iconst (nI 1) d_JI_numberOfTrailingZeros_76 rfl ?_
            refine V_iushrN d_JI_numberOfTrailingZeros_77 (by have := (T0 t ht2).1; omega) (by decide) ?_
            refine V_iaddN d_JI_numberOfTrailingZeros_78 ?_
            exact V_ireturn d_JI_numberOfTrailingZeros_79 rfl ⟨congrArg (fun z => Sum.inl (some (Value.int (nI z)))) (by have cc := And.intro c0 (And.intro c1 (And.intro c2 (And.intro c3 c4))); clear ht ha ha0 T0 c0 c1 c2 c3 c4; revert t; decide), rfl, rfl⟩
        · refine V_iincN_1 4 d_JI_numberOfTrailingZeros_55 rfl rfl ?_
          refine V_iload_n d_JI_numberOfTrailingZeros_58 rfl ?_
          refine V_iconst (nI 4) d_JI_numberOfTrailingZeros_59 rfl ?_
          refine V_iushrN d_JI_numberOfTrailingZeros_60 (by have := (T0 t ht2).1; omega) (by decide) ?_
          refine V_istore_0 d_JI_numberOfTrailingZeros_61 ?_
          refine V_iload_n d_JI_numberOfTrailingZeros_62 rfl ?_
          refine V_iconst (nI 4) d_JI_numberOfTrailingZeros_63 rfl ?_
          refine V_icmp_leN 74 d_JI_numberOfTrailingZeros_64 (by decide) (by have := (T0 t ht2).1; omega) (by decide) (fun c4 => ?_) (fun c4 => ?_)
          · refine V_iload_n d_JI_numberOfTrailingZeros_74 rfl ?_
            refine V_iload_n d_JI_numberOfTrailingZeros_75 rfl ?_
            refine V_iconst (nI 1) d_JI_numberOfTrailingZeros_76 rfl ?_
            refine V_iushrN d_JI_numberOfTrailingZeros_77 (by have := (T0 t ht2).1; omega) (by decide) ?_
            refine V_iaddN d_JI_numberOfTrailingZeros_78 ?_
            exact V_ireturn d_JI_numberOfTrailingZeros_79 rfl ⟨congrArg (fun z => Sum.inl (some (Value.int (nI z)))) (by have cc := And.intro c0 (And.intro c1 (And.intro c2 (And.intro c3 c4))); clear ht ha ha0 T0 c0 c1 c2 c3 c4; revert t; decide), rfl, rfl⟩
          · refine V_iincN_1 2 d_JI_numberOfTrailingZeros_67 rfl rfl ?_
            refine V_iload_n d_JI_numberOfTrailingZeros_70 rfl ?_
            refine V_iconst (nI 2) d_JI_numberOfTrailingZeros_71 rfl ?_
            refine V_iushrN d_JI_numberOfTrailingZeros_72 (by have := (T0 t ht2).1; omega) (by decide) ?_
            refine V_istore_0 d_JI_numberOfTrailingZeros_73 ?_
            refine V_iload_n d_JI_numberOfTrailingZeros_74 rfl ?_
            refine V_iload_n d_JI_numberOfTrailingZeros_75 rfl ?_
            refine V_iconst (nI 1) d_JI_numberOfTrailingZeros_76 rfl ?_
            refine V_iushrN d_JI_numberOfTrailingZeros_77 (by have := (T0 t ht2).1; omega) (by decide) ?_
            refine V_iaddN d_JI_numberOfTrailingZeros_78 ?_
            exact V_ireturn d_JI_numberOfTrailingZeros_79 rfl ⟨congrArg (fun z => Sum.inl (some (Value.int (nI z)))) (by have cc := And.intro c0 (And.intro c1 (And.intro c2 (And.intro c3 c4))); clear ht ha ha0 T0 c0 c1 c2 c3 c4; revert t; decide), rfl, rfl⟩
    · refine V_iincN_1 16 d_JI_numberOfTrailingZeros_26 rfl rfl ?_
      refine V_iload_n d_JI_numberOfTrailingZeros_29 rfl ?_
      refine V_bipush (nI 16) d_JI_numberOfTrailingZeros_30 rfl ?_
      refine V_iushrN d_JI_numberOfTrailingZeros_32 (by have := (T0 t ht2).1; omega) (by decide) ?_
      refine V_istore_0 d_JI_numberOfTrailingZeros_33 ?_
      refine V_iload_n d_JI_numberOfTrailingZeros_34 rfl ?_
      refine V_sipush (nI 256) d_JI_numberOfTrailingZeros_35 rfl ?_
      refine V_icmp_leN 49 d_JI_numberOfTrailingZeros_38 (by decide) (by have := (T0 t ht2).1; omega) (by decide) (fun c2 => ?_) (fun c2 => ?_)
      · refine V_iload_n d_JI_numberOfTrailingZeros_49 rfl ?_
        refine V_bipush (nI 16) d_JI_numberOfTrailingZeros_50 rfl ?_
        refine V_icmp_leN 62 d_JI_numberOfTrailingZeros_52 (by decide) (by have := (T0 t ht2).1; omega) (by decide) (fun c3 => ?_) (fun c3 => ?_)
        · refine V_iload_n d_JI_numberOfTrailingZeros_62 rfl ?_
          refine V_iconst (nI 4) d_JI_numberOfTrailingZeros_63 rfl ?_
          refine V_icmp_leN 74 d_JI_numberOfTrailingZeros_64 (by decide) (by have := (T0 t ht2).1; omega) (by decide) (fun c4 => ?_) (fun c4 => ?_)
          · refine V_iload_n d_JI_numberOfTrailingZeros_74 rfl ?_
            refine V_iload_n d_JI_numberOfTrailingZeros_75 rfl ?_
            refine V_iconst (nI 1) d_JI_numberOfTrailingZeros_76 rfl ?_
            refine V_iushrN d_JI_numberOfTrailingZeros_77 (by have := (T0 t ht2).1; omega) (by decide) ?_
            refine V_iaddN d_JI_numberOfTrailingZeros_78 ?_
            exact V_ireturn d_JI_numberOfTrailingZeros_79 rfl ⟨congrArg (fun z => Sum.inl (some (Value.int (nI z)))) (by have cc := And.intro c0 (And.intro c1 (And.intro c2 (And.intro c3 c4))); clear ht ha ha0 T0 c0 c1 c2 c3 c4; revert t; decide), rfl, rfl⟩
          · refine V_iincN_1 2 d_JI_numberOfTrailingZeros_67 rfl rfl ?_
            refine V_iload_n d_JI_numberOfTrailingZeros_70 rfl ?_
            refine V_iconst (nI 2) d_JI_numberOfTrailingZeros_71 rfl ?_
            refine V_iushrN d_JI_numberOfTrailingZeros_72 (by have := (T0 t ht2).1; omega) (by decide) ?_
            refine V_istore_0 d_JI_numberOfTrailingZeros_73 ?_
            refine V_iload_n d_JI_numberOfTrailingZeros_74 rfl ?_
            refine V_iload_n d_JI_numberOfTrailingZeros_75 rfl ?_
            refine V_iconst (nI 1) d_JI_numberOfTrailingZeros_76 rfl ?_
            refine V_iushrN d_JI_numberOfTrailingZeros_77 (by have := (T0 t ht2).1; omega) (by decide) ?_
            refine V_iaddN d_JI_numberOfTrailingZeros_78 ?_
            exact V_ireturn d_JI_numberOfTrailingZeros_79 rfl ⟨congrArg (fun z => Sum.inl (some (Value.int (nI z)))) (by have cc := And.intro c0 (And.intro c1 (And.intro c2 (And.intro c3 c4))); clear ht ha ha0 T0 c0 c1 c2 c3 c4; revert t; decide), rfl, rfl⟩
        · refine V_iincN_1 4 d_JI_numberOfTrailingZeros_55 rfl rfl ?_
          refine V_iload_n d_JI_numberOfTrailingZeros_58 rfl ?_
          refine V_iconst (nI 4) d_JI_numberOfTrailingZeros_59 rfl ?_
          refine V_iushrN d_JI_numberOfTrailingZeros_60 (by have := (T0 t ht2).1; omega) (by decide) ?_
          refine V_istore_0 d_JI_numberOfTrailingZeros_61 ?_
          refine V_iload_n d_JI_numberOfTrailingZeros_62 rfl ?_
          refine V_iconst (nI 4) d_JI_numberOfTrailingZeros_63 rfl ?_
          refine V_icmp_leN 74 d_JI_numberOfTrailingZeros_64 (by decide) (by have := (T0 t ht2).1; omega) (by decide) (fun c4 => ?_) (fun c4 => ?_)
          · refine V_iload_n d_JI_numberOfTrailingZeros_74 rfl ?_
            refine V_iload_n d_JI_numberOfTrailingZeros_75 rfl ?_
            refine V_iconst (nI 1) d_JI_numberOfTrailingZeros_76 rfl ?_
            refine V_iushrN d_JI_numberOfTrailingZeros_77 (by have := (T0 t ht2).1; omega) (by decide) ?_
            refine V_iaddN d_JI_numberOfTrailingZeros_78 ?_
            exact V_ireturn d_JI_numberOfTrailingZeros_79 rfl ⟨congrArg (fun z => Sum.inl (some (Value.int (nI z)))) (by have cc := And.intro c0 (And.intro c1 (And.intro c2 (And.intro c3 c4))); clear ht ha ha0 T0 c0 c1 c2 c3 c4; revert t; decide), rfl, rfl⟩
          · refine V_iincN_1 2 d_JI_numberOfTrailingZeros_67 rfl rfl ?_
            refine V_iload_n d_JI_numberOfTrailingZeros_70 rfl ?_
            refine V_iconst (nI 2) d_JI_numberOfTrailingZeros_71 rfl ?_
            refine V_iushrN d_JI_numberOfTrailingZeros_72 (by have := (T0 t ht2).1; omega) (by decide) ?_
            refine V_istore_0 d_JI_numberOfTrailingZeros_73 ?_
            refine V_iload_n d_JI_numberOfTrailingZeros_74 rfl ?_
            refine V_iload_n d_JI_numberOfTrailingZeros_75 rfl ?_
            refine V_iconst (nI 1) d_JI_numberOfTrailingZeros_76 rfl ?_
            refine V_iushrN d_JI_numberOfTrailingZeros_77 (by have := (T0 t ht2).1; omega) (by decide) ?_
            refine V_iaddN d_JI_numberOfTrailingZeros_78 ?_
            exact V_ireturn d_JI_numberOfTrailingZeros_79 rfl ⟨congrArg (fun z => Sum.inl (some (Value.int (nI z)))) (by have cc := And.intro c0 (And.intro c1 (And.intro c2 (And.intro c3 c4))); clear ht ha ha0 T0 c0 c1 c2 c3 c4; revert t; decide), rfl, rfl⟩
      · refine V_iincN_1 8 d_JI_numberOfTrailingZeros_41 rfl rfl ?_
        refine V_iload_n d_JI_numberOfTrailingZeros_44 rfl ?_
        refine V_bipush (nI 8) d_JI_numberOfTrailingZeros_45 rfl ?_
        refine V_iushrN d_JI_numberOfTrailingZeros_47 (by have := (T0 t ht2).1; omega) (by decide) ?_
        refine V_istore_0 d_JI_numberOfTrailingZeros_48 ?_
        refine V_iload_n d_JI_numberOfTrailingZeros_49 rfl ?_
        refine V_bipush (nI 16) d_JI_numberOfTrailingZeros_50 rfl ?_
        refine V_icmp_leN 62 d_JI_numberOfTrailingZeros_52 (by decide) (by have := (T0 t ht2).1; omega) (by decide) (fun c3 => ?_) (fun c3 => ?_)
        · refine V_iload_n d_JI_numberOfTrailingZeros_62 rfl ?_
          refine V_iconst (nI 4) d_JI_numberOfTrailingZeros_63 rfl ?_
          refine V_icmp_leN 74 d_JI_numberOfTrailingZeros_64 (by decide) (by have := (T0 t ht2).1; omega) (by decide) (fun c4 => ?_) (fun c4 => ?_)
          · refine V_iload_n d_JI_numberOfTrailingZeros_74 rfl ?_
            refine V_iload_n d_JI_numberOfTrailingZeros_75 rfl ?_
            refine V_iconst (nI 1) d_JI_numberOfTrailingZeros_76 rfl ?_
            refine V_iushrN d_JI_numberOfTrailingZeros_77 (by have := (T0 t ht2).1; omega) (by decide) ?_
            refine V_iaddN d_JI_numberOfTrailingZeros_78 ?_
            exact V_ireturn d_JI_numberOfTrailingZeros_79 rfl ⟨congrArg (fun z => Sum.inl (some (Value.int (nI z)))) (by have cc := And.intro c0 (And.intro c1 (And.intro c2 (And.intro c3 c4))); clear ht ha ha0 T0 c0 c1 c2 c3 c4; revert t; decide), rfl, rfl⟩
          · refine V_iincN_1 2 d_JI_numberOfTrailingZeros_67 rfl rfl ?_
            refine V_iload_n d_JI_numberOfTrailingZeros_70 rfl ?_
            refine V_iconst (nI 2) d_JI_numberOfTrailingZeros_71 rfl ?_
            refine V_iushrN d_JI_numberOfTrailingZeros_72 (by have := (T0 t ht2).1; omega) (by decide) ?_
            refine V_istore_0 d_JI_numberOfTrailingZeros_73 ?_
            refine V_iload_n d_JI_numberOfTrailingZeros_74 rfl ?_
            refine V_iload_n d_JI_numberOfTrailingZeros_75 rfl ?_
            refine V_iconst (nI 1) d_JI_numberOfTrailingZeros_76 rfl ?_
            refine V_iushrN d_JI_numberOfTrailingZeros_77 (by have := (T0 t ht2).1; omega) (by decide) ?_
            refine V_iaddN d_JI_numberOfTrailingZeros_78 ?_
            exact V_ireturn d_JI_numberOfTrailingZeros_79 rfl ⟨congrArg (fun z => Sum.inl (some (Value.int (nI z)))) (by have cc := And.intro c0 (And.intro c1 (And.intro c2 (And.intro c3 c4))); clear ht ha ha0 T0 c0 c1 c2 c3 c4; revert t; decide), rfl, rfl⟩
        · refine V_iincN_1 4 d_JI_numberOfTrailingZeros_55 rfl rfl ?_
          refine V_iload_n d_JI_numberOfTrailingZeros_58 rfl ?_
          refine V_iconst (nI 4) d_JI_numberOfTrailingZeros_59 rfl ?_
          refine V_iushrN d_JI_numberOfTrailingZeros_60 (by have := (T0 t ht2).1; omega) (by decide) ?_
          refine V_istore_0 d_JI_numberOfTrailingZeros_61 ?_
          refine V_iload_n d_JI_numberOfTrailingZeros_62 rfl ?_
          refine V_iconst (nI 4) d_JI_numberOfTrailingZeros_63 rfl ?_
          refine V_icmp_leN 74 d_JI_numberOfTrailingZeros_64 (by decide) (by have := (T0 t ht2).1; omega) (by decide) (fun c4 => ?_) (fun c4 => ?_)
          · refine V_iload_n d_JI_numberOfTrailingZeros_74 rfl ?_
            refine V_iload_n d_JI_numberOfTrailingZeros_75 rfl ?_
            refine V_iconst (nI 1) d_JI_numberOfTrailingZeros_76 rfl ?_
            refine V_iushrN d_JI_numberOfTrailingZeros_77 (by have := (T0 t ht2).1; omega) (by decide) ?_
            refine V_iaddN d_JI_numberOfTrailingZeros_78 ?_
            exact V_ireturn d_JI_numberOfTrailingZeros_79 rfl ⟨congrArg (fun z => Sum.inl (some (Value.int (nI z)))) (by have cc := And.intro c0 (And.intro c1 (And.intro c2 (And.intro c3 c4))); clear ht ha ha0 T0 c0 c1 c2 c3 c4; revert t; decide), rfl, rfl⟩
          · refine V_iincN_1 2 d_JI_numberOfTrailingZeros_67 rfl rfl ?_
            refine V_iload_n d_JI_numberOfTrailingZeros_70 rfl ?_
            refine V_iconst (nI 2) d_JI_numberOfTrailingZeros_71 rfl ?_
            refine V_iushrN d_JI_numberOfTrailingZeros_72 (by have := (T0 t ht2).1; omega) (by decide) ?_
            refine V_istore_0 d_JI_numberOfTrailingZeros_73 ?_
            refine V_iload_n d_JI_numberOfTrailingZeros_74 rfl ?_
            refine V_iload_n d_JI_numberOfTrailingZeros_75 rfl ?_
            refine V_iconst (nI 1) d_JI_numberOfTrailingZeros_76 rfl ?_
            refine V_iushrN d_JI_numberOfTrailingZeros_77 (by have := (T0 t ht2).1; omega) (by decide) ?_
            refine V_iaddN d_JI_numberOfTrailingZeros_78 ?_
            exact V_ireturn d_JI_numberOfTrailingZeros_79 rfl ⟨congrArg (fun z => Sum.inl (some (Value.int (nI z)))) (by have cc := And.intro c0 (And.intro c1 (And.intro c2 (And.intro c3 c4))); clear ht ha ha0 T0 c0 c1 c2 c3 c4; revert t; decide), rfl, rfl⟩
  · refine V_iload_n d_JI_numberOfTrailingZeros_12 rfl ?_
    refine V_bipush (nI 32) d_JI_numberOfTrailingZeros_13 rfl ?_
    refine V_iandN d_JI_numberOfTrailingZeros_15 ?_
    exact V_ireturn d_JI_numberOfTrailingZeros_16 rfl ⟨by rw [(T0 t ht2).2 c0], rfl, rfl⟩

set_option maxRecDepth 100000 in
set_option maxHeartbeats 4000000 in
theorem c_K_count (l : Launch) (D : hv_D) (h : hv_P) (nx : Nat) {a : Nat} (ha : a < 2 ^ 31) : hv_N l D M_K_count (hv_rm 0 0 0 0) [.int (nI a)] h nx (hv_ans (some (.int (nI (pc_n a 20)))) (hv_same h nx)) := by
  have lp : ∀ (k i : Nat), k = 20 - i → i ≤ 20 → hv_V l D M_K_count (fun _ _ => True) (hv_rm 0 0 0 0) (hv_ans (some (.int (nI (pc_n a 20)))) (hv_same h nx)) 0 0 h nx 4 [some (.int (nI a)), some (.int (nI (pc_n a i))), some (.int (nI i))] [] := by
    intro k
    induction k using Nat.strongRecOn with
    | ind k ih =>
      intro i hk hi
      refine V_iload_n d_K_count_4 rfl ?_
      refine V_bipush (nI 20) d_K_count_5 rfl ?_
      refine V_icmp_geN 24 d_K_count_7 (by decide) (by omega) (by decide) (fun c => ?_) (fun c => ?_)
      · refine V_iload_n d_K_count_24 rfl ?_
        exact V_ireturn d_K_count_25 rfl ⟨by rw [show i = 20 by omega], rfl, rfl⟩
      · refine V_iload_n d_K_count_10 rfl ?_
        refine V_iload_n d_K_count_11 rfl ?_
        refine V_iload_n d_K_count_12 rfl ?_
        refine V_ishrN d_K_count_13 ha (by omega) ?_
        refine V_iconst (nI 1) d_K_count_14 rfl ?_
        refine V_iandN d_K_count_15 ?_
        refine V_iaddN d_K_count_16 ?_
        rw [pc_n_step]
        refine V_istore_1 d_K_count_17 rfl ?_
        refine V_iincN_2 1 d_K_count_18 rfl rfl ?_
        refine V_goto 4 d_K_count_21 (by decide) ?_
        exact ih (20 - (i + 1)) (by omega) (i + 1) rfl (by omega)
  refine hv_N.of' [some (.int (nI a)), none, none] (by decide +kernel) rfl rfl rfl ?_
  refine V_iconst (nI 0) d_K_count_0 rfl ?_
  refine V_istore_1 d_K_count_1 rfl ?_
  refine V_iconst (nI 0) d_K_count_2 rfl ?_
  refine V_istore_2 d_K_count_3 rfl ?_
  exact lp _ 0 rfl (by decide)
end
section
-- THE CLASS's cells
abbrev oN (b : Nat) (c ap z wk lk : Int32) : hv_E := eO 4 [.ref (b + 1), .ref (b + 42), .ref (b + 43), .ref (b + 44), .ref (b + 45), .ref (b + 51), .ref (b + 57), .ref (b + 62), .int c, .int ap, .int z, .int wk, .int lk]
abbrev oT (a : Nat) (pl lg : Int32) : hv_E := eO 3 [.ref (a + 1), .ref (a + 2), .ref (a + 3), .int pl, .int lg]
abbrev oO (a : Nat) (ac ml : Int32) : hv_E := eO 2 [.ref (a + 1), .ref (a + 2), .ref (a + 3), .ref (a + 4), .ref (a + 5), .int ac, .int ml]
abbrev oG (a : Nat) (gn ac : Int32) : hv_E := eO 1 [.ref (a + 1), .ref (a + 2), .ref (a + 3), .ref (a + 4), .int gn, .int ac]
abbrev oC (a rr ri : Nat) (op us : Int32) : hv_E := eO 0 [.ref (a + 1), .ref (a + 2), .ref (a + 3), .ref (a + 4), .ref (a + 5), .ref rr, .ref ri, .int op, .int us]
abbrev oK (k : Nat) (th tn op sh sp tu gc my : Int32) (sr si : Int64) (so sx : Int32) : hv_E := eO 5 [.int th, .int tn, .ref (k + 1), .ref (k + 2), .ref (k + 3), .ref (k + 4), .int op, .int sh, .ref (k + 5), .ref (k + 6), .ref (k + 7), .ref (k + 8), .int sp, .ref (k + 9), .ref (k + 10), .ref (k + 11), .ref (k + 12), .ref (k + 13), .ref (k + 14), .int tu, .int gc, .ref (k + 15), .ref (k + 16), .int my, .ref (k + 17), .ref (k + 18), .ref (k + 19), .long sr, .long si, .int so, .int sx]
/-- a truth as an int -/
def bZ (p : Bool) : Int32 := if p then 1 else 0
set_option maxRecDepth 100000 in
set_option maxHeartbeats 4000000 in
theorem c_N_isReady (l : Launch) (D : hv_D) (h : hv_P) (nx : Nat) {b : Nat} {c ap z wk lk : Int32} (hb : h b = some (oN b c ap z wk lk)) : hv_N l D M_N_isReady (hv_rm 0 0 0 0) [.ref b] h nx (hv_ans (some (.int (bZ (decide (¬ c ≤ 0) && decide (z = 0))))) (hv_same h nx)) := by
  refine hv_N.of' [some (.ref b)] (by decide +kernel) rfl rfl rfl ?_
  refine V_aload_n d_N_isReady_0 rfl ?_
  refine V_getfield d_N_isReady_1 fl_N_53 (by assumption) rfl ?_
  refine V_if_le 18 d_N_isReady_4 (by decide) (fun q1 => ?_) (fun q1 => ?_)
  · refine V_iconst (0) d_N_isReady_18 rfl ?_
    exact V_zreturn d_N_isReady_19 rfl rfl ⟨by first | (simp [bZ, q1, q2]; done) | (simp [bZ, q1]; done), rfl, rfl⟩
  · refine V_aload_n d_N_isReady_7 rfl ?_
    refine V_getfield d_N_isReady_8 fl_N_64 (by assumption) rfl ?_
    refine V_if_ne 18 d_N_isReady_11 (by decide) (fun q2 => ?_) (fun q2 => ?_)
    · refine V_iconst (0) d_N_isReady_18 rfl ?_
      exact V_zreturn d_N_isReady_19 rfl rfl ⟨by first | (simp [bZ, q1, q2]; done) | (simp [bZ, q1]; done), rfl, rfl⟩
    · refine V_iconst (1) d_N_isReady_14 rfl ?_
      refine V_goto 19 d_N_isReady_15 (by decide) ?_
      exact V_zreturn d_N_isReady_19 rfl rfl ⟨by first | (simp [bZ, q1, q2]; done) | (simp [bZ, q1]; done), rfl, rfl⟩

set_option maxRecDepth 100000 in
set_option maxHeartbeats 4000000 in
theorem c_N_isTensor (l : Launch) (D : hv_D) (h : hv_P) (nx : Nat) {b : Nat} {c ap z wk lk : Int32} (hb : h b = some (oN b c ap z wk lk)) (t : Int32) : hv_N l D M_N_isTensor (hv_rm 0 0 0 0) [.ref b, .int t] h nx (hv_ans (some (.int (bZ (decide (¬ t < 0) && decide (¬ c ≤ t))))) (hv_same h nx)) := by
  refine hv_N.of' [some (.ref b), some (.int t)] (by decide +kernel) rfl rfl rfl ?_
  refine V_iload_n d_N_isTensor_0 rfl ?_
  refine V_if_lt 16 d_N_isTensor_1 (by decide) (fun q1 => ?_) (fun q1 => ?_)
  · refine V_iconst (0) d_N_isTensor_16 rfl ?_
    exact V_zreturn d_N_isTensor_17 rfl rfl ⟨by first | (simp [bZ, q1, q2]; done) | (simp [bZ, q1]; done), rfl, rfl⟩
  · refine V_iload_n d_N_isTensor_4 rfl ?_
    refine V_aload_n d_N_isTensor_5 rfl ?_
    refine V_getfield d_N_isTensor_6 fl_N_53 (by assumption) rfl ?_
    refine V_icmp_ge 16 d_N_isTensor_9 (by decide) (fun q2 => ?_) (fun q2 => ?_)
    · refine V_iconst (0) d_N_isTensor_16 rfl ?_
      exact V_zreturn d_N_isTensor_17 rfl rfl ⟨by first | (simp [bZ, q1, q2]; done) | (simp [bZ, q1]; done), rfl, rfl⟩
    · refine V_iconst (1) d_N_isTensor_12 rfl ?_
      refine V_goto 17 d_N_isTensor_13 (by decide) ?_
      exact V_zreturn d_N_isTensor_17 rfl rfl ⟨by first | (simp [bZ, q1, q2]; done) | (simp [bZ, q1]; done), rfl, rfl⟩

set_option maxRecDepth 100000 in
set_option maxHeartbeats 4000000 in
theorem c_N_isPart (l : Launch) (D : hv_D) (h : hv_P) (nx : Nat) (t : Int32) : hv_N l D M_N_isPart (hv_rm 0 0 0 0) [.int t] h nx (hv_ans (some (.int (bZ (decide (¬ t < (-9)) && decide (¬ 9 < t))))) (hv_same h nx)) := by
  refine hv_N.of' [some (.int t)] (by decide +kernel) rfl rfl rfl ?_
  refine V_iload_n d_N_isPart_0 rfl ?_
  refine V_bipush (-9) d_N_isPart_1 rfl ?_
  refine V_icmp_lt 16 d_N_isPart_3 (by decide) (fun q1 => ?_) (fun q1 => ?_)
  · refine V_iconst (0) d_N_isPart_16 rfl ?_
    exact V_zreturn d_N_isPart_17 rfl rfl ⟨by first | (simp [bZ, q1, q2]; done) | (simp [bZ, q1]; done), rfl, rfl⟩
  · refine V_iload_n d_N_isPart_6 rfl ?_
    refine V_bipush (9) d_N_isPart_7 rfl ?_
    refine V_icmp_gt 16 d_N_isPart_9 (by decide) (fun q2 => ?_) (fun q2 => ?_)
    · refine V_iconst (0) d_N_isPart_16 rfl ?_
      exact V_zreturn d_N_isPart_17 rfl rfl ⟨by first | (simp [bZ, q1, q2]; done) | (simp [bZ, q1]; done), rfl, rfl⟩
    · refine V_iconst (1) d_N_isPart_12 rfl ?_
      refine V_goto 17 d_N_isPart_13 (by decide) ?_
      exact V_zreturn d_N_isPart_17 rfl rfl ⟨by first | (simp [bZ, q1, q2]; done) | (simp [bZ, q1]; done), rfl, rfl⟩

set_option maxRecDepth 100000 in
set_option maxHeartbeats 4000000 in
theorem c_K_isTensor (l : Launch) (D : hv_D) (h : hv_P) (nx : Nat) {k : Nat} {th tn op sh sp tu gc my : Int32} {sr si : Int64} {so sx : Int32} (hk : h k = some (oK k th tn op sh sp tu gc my sr si so sx)) (t : Int32) : hv_N l D M_K_isTensor (hv_rm 0 0 0 0) [.ref k, .int t] h nx (hv_ans (some (.int (bZ (decide (¬ t < 0) && decide (¬ tn ≤ t))))) (hv_same h nx)) := by
  refine hv_N.of' [some (.ref k), some (.int t)] (by decide +kernel) rfl rfl rfl ?_
  refine V_iload_n d_K_isTensor_0 rfl ?_
  refine V_if_lt 16 d_K_isTensor_1 (by decide) (fun q1 => ?_) (fun q1 => ?_)
  · refine V_iconst (0) d_K_isTensor_16 rfl ?_
    exact V_zreturn d_K_isTensor_17 rfl rfl ⟨by first | (simp [bZ, q1, q2]; done) | (simp [bZ, q1]; done), rfl, rfl⟩
  · refine V_iload_n d_K_isTensor_4 rfl ?_
    refine V_aload_n d_K_isTensor_5 rfl ?_
    refine V_getfield d_K_isTensor_6 fl_K_73 (by assumption) rfl ?_
    refine V_icmp_ge 16 d_K_isTensor_9 (by decide) (fun q2 => ?_) (fun q2 => ?_)
    · refine V_iconst (0) d_K_isTensor_16 rfl ?_
      exact V_zreturn d_K_isTensor_17 rfl rfl ⟨by first | (simp [bZ, q1, q2]; done) | (simp [bZ, q1]; done), rfl, rfl⟩
    · refine V_iconst (1) d_K_isTensor_12 rfl ?_
      refine V_goto 17 d_K_isTensor_13 (by decide) ?_
      exact V_zreturn d_K_isTensor_17 rfl rfl ⟨by first | (simp [bZ, q1, q2]; done) | (simp [bZ, q1]; done), rfl, rfl⟩

set_option maxRecDepth 100000 in
set_option maxHeartbeats 4000000 in
theorem c_K_clear (l : Launch) (D : hv_D) (h : hv_P) (nx : Nat) {k : Nat} {th tn op sh sp tu gc my : Int32} {sr si : Int64} {so sx : Int32} (hk : h k = some (oK k th tn op sh sp tu gc my sr si so sx)) : hv_N l D M_K_clear (hv_rm 0 0 0 0) [.ref k] h nx (hv_ans none (fun h' n' => h' = hv_up h k (oK k 0 0 op sh sp tu gc my sr si so sx) ∧ n' = nx)) := by
  refine hv_N.of' [some (.ref k)] (by decide +kernel) rfl rfl rfl ?_
  refine V_aload_n d_K_clear_0 rfl ?_
  refine V_iconst (0) d_K_clear_1 rfl ?_
  refine V_put (e' := oK k 0 tn op sh sp tu gc my sr si so sx) d_K_clear_2 fp_K_69 (by assumption) rfl rfl rfl rfl rfl ?_
  refine V_aload_n d_K_clear_5 rfl ?_
  refine V_iconst (0) d_K_clear_6 rfl ?_
  refine V_put (e' := oK k 0 0 op sh sp tu gc my sr si so sx) d_K_clear_7 fp_K_73 hv_up_s rfl rfl rfl rfl hv_up_up ?_
  exact V_return d_K_clear_10 rfl ⟨rfl, rfl, rfl⟩

set_option maxRecDepth 100000 in
set_option maxHeartbeats 4000000 in
theorem c_K_thrown (l : Launch) (D : hv_D) (h : hv_P) (nx : Nat) {k : Nat} {th tn op sh sp tu gc my : Int32} {sr si : Int64} {so sx : Int32} (hk : h k = some (oK k th tn op sh sp tu gc my sr si so sx)) : hv_N l D M_K_thrown (hv_rm 0 0 0 0) [.ref k] h nx (hv_ans (some (.int th)) (hv_same h nx)) := by
  refine hv_N.of' [some (.ref k)] (by decide +kernel) rfl rfl rfl ?_
  refine V_aload_n d_K_thrown_0 rfl ?_
  refine V_getfield d_K_thrown_1 fl_K_69 (by assumption) rfl ?_
  exact V_ireturn d_K_thrown_4 rfl ⟨rfl, rfl, rfl⟩

set_option maxRecDepth 100000 in
set_option maxHeartbeats 4000000 in
theorem c_K_raise (l : Launch) (D : hv_D) (h : hv_P) (nx : Nat) {k : Nat} {th tn op sh sp tu gc my : Int32} {sr si : Int64} {so sx : Int32} (hk : h k = some (oK k th tn op sh sp tu gc my sr si so sx)) (x : Int32) : hv_N l D M_K_raise (hv_rm 0 0 0 0) [.ref k, .int x] h nx (hv_ans (some (.long 0)) (fun h' n' => h' = hv_up h k (oK k x tn op sh sp tu gc my sr si so sx) ∧ n' = nx)) := by
  refine hv_N.of' [some (.ref k), some (.int x)] (by decide +kernel) rfl rfl rfl ?_
  refine V_aload_n d_K_raise_0 rfl ?_
  refine V_iload_n d_K_raise_1 rfl ?_
  refine V_put (e' := oK k x tn op sh sp tu gc my sr si so sx) d_K_raise_2 fp_K_69 (by assumption) rfl rfl rfl rfl rfl ?_
  refine V_lconst 0 d_K_raise_5 rfl ?_
  exact V_lreturn d_K_raise_6 rfl ⟨rfl, rfl, rfl⟩

theorem hv_bit_eq {a k : Nat} : (a / 2 ^ k &&& 1 = 1) = (a.testBit k = true) := by
  rw [Nat.and_one_is_mod, Nat.testBit_eq_decide_div_mod_eq]
  simp
set_option maxRecDepth 100000 in
set_option maxHeartbeats 4000000 in
theorem c_N_isIn (l : Launch) (D : hv_D) (h : hv_P) (nx : Nat) {a k : Nat} (ha : a < 2 ^ 31) (hk : k < 32) : hv_N l D M_N_isIn (hv_rm 0 0 0 0) [.int (nI k), .int (nI a)] h nx (hv_ans (some (.int (bZ (a.testBit k)))) (hv_same h nx)) := by
  refine hv_N.of' [some (.int (nI k)), some (.int (nI a))] (by decide +kernel) rfl rfl rfl ?_
  refine V_iload_n d_N_isIn_0 rfl ?_
  refine V_iload_n d_N_isIn_1 rfl ?_
  refine V_ishrN d_N_isIn_2 ha hk ?_
  refine V_iconst (nI 1) d_N_isIn_3 rfl ?_
  refine V_iandN d_N_isIn_4 ?_
  refine V_iconst (nI 1) d_N_isIn_5 rfl ?_
  refine V_icmp_neN 13 d_N_isIn_6 (by decide) (Nat.lt_of_le_of_lt Nat.and_le_right (by decide)) (by decide) (fun q => ?_) (fun q => ?_)
  · refine V_iconst (0) d_N_isIn_13 rfl ?_
    exact V_zreturn d_N_isIn_14 rfl rfl ⟨by simp only [ne_eq, hv_bit_eq] at q; simp [bZ, q], rfl, rfl⟩
  · refine V_iconst (1) d_N_isIn_9 rfl ?_
    refine V_goto 14 d_N_isIn_10 (by decide) ?_
    exact V_zreturn d_N_isIn_14 rfl rfl ⟨by simp only [ne_eq, hv_bit_eq] at q; simp [bZ, q], rfl, rfl⟩
end
section
-- TENSOR: names, legs
/-- a name, or none, as an int -/
def en_ (o : Option Nat) : Int32 := match o with
  | none => -1
  | some k => nI k
abbrev eM (n : Nat) (g : Nat → Option Nat) : hv_E := eI n (fun j => en_ (g j))
/-- the set of one name, or of none -/
def ob_ (o : Option Nat) : Nat := match o with
  | none => 0
  | some k => 2 ^ k
/-- the legs of n places -/
def lgx (g : Nat → Option Nat) : Nat → Nat
  | 0 => 0
  | n + 1 => lgx g n ^^^ ob_ (g n)
/-- the names of those of n places whose value at the index x is v -/
def nwb (g : Nat → Option Nat) (x v : Nat) : Nat → Nat
  | 0 => 0
  | n + 1 => if x / 2 ^ n % 2 = v then nwb g x v n ||| ob_ (g n) else nwb g x v n
theorem en_up (g : Nat → Option Nat) (j : Nat) (o : Option Nat) : va_up (fun j => en_ (g j)) j (en_ o) = fun q => en_ (va_up g j o q) := by
  funext q
  unfold va_up
  split <;> rfl
theorem en_ne {k : Nat} (hk : k < 20) : ¬ en_ (some k) = -1 := by
  have : ∀ k, k < 20 → ¬ en_ (some k) = -1 := by decide
  exact this k hk
theorem ob_lt {o : Option Nat} (h : ∀ k, o = some k → k < 20) : ob_ o < 2 ^ 20 := by
  cases o with
  | none => exact Nat.two_pow_pos 20
  | some k => exact Nat.pow_lt_pow_right (by decide) (h k rfl)
theorem lgx_lt {g : Nat → Option Nat} : ∀ {n : Nat}, (∀ p k, p < n → g p = some k → k < 20) → lgx g n < 2 ^ 20
  | 0, _ => Nat.two_pow_pos 20
  | n + 1, h => Nat.xor_lt_two_pow (lgx_lt (fun p k hp => h p k (by omega))) (ob_lt (fun k => h n k (by omega)))
theorem nwb_lt {g : Nat → Option Nat} {x v : Nat} : ∀ {n : Nat}, (∀ p k, p < n → g p = some k → k < 20) → nwb g x v n < 2 ^ 20
  | 0, _ => Nat.two_pow_pos 20
  | n + 1, h => by
    have h1 := nwb_lt (x := x) (v := v) (n := n) (fun p k hp => h p k (by omega))
    simp only [nwb]
    split
    · exact Nat.or_lt_two_pow h1 (ob_lt (fun k => h n k (by omega)))
    · exact h1
set_option maxRecDepth 100000 in
set_option maxHeartbeats 4000000 in
theorem c_T_setName (l : Launch) (D : hv_D) (h : hv_P) (nx : Nat) {a pl j : Nat} {lg : Int32} {g : Nat → Option Nat} {q : Option Nat} (ha : h a = some (oT a (nI pl) lg)) (hg : h (a + 1) = some (eM 6 g)) (hpl : pl ≤ 6) (hj : j < 6) (hv : ∀ p k, p < 6 → va_up g j q p = some k → k < 20) : hv_N l D M_T_setName (hv_rm 0 0 0 0) [.ref a, .int (nI j), .int (en_ q)] h nx (hv_ans none (fun h' n' => h' = hv_ov h [(a, oT a (nI pl) (nI (lgx (va_up g j q) pl))), (a + 1, eM 6 (va_up g j q))] ∧ n' = nx)) := by
  have lp : ∀ (k i : Nat), k = pl - i → i ≤ pl → hv_V l D M_T_setName (fun _ _ => True) (hv_rm 0 0 0 0) (hv_ans none (fun h' n' => h' = hv_ov h [(a, oT a (nI pl) (nI (lgx (va_up g j q) pl))), (a + 1, eM 6 (va_up g j q))] ∧ n' = nx)) 0 0 (hv_ov h [(a, oT a (nI pl) (nI (lgx (va_up g j q) i))), (a + 1, eM 6 (va_up g j q))]) nx 14 [some (.ref a), some (.int (nI j)), some (.int (en_ q)), some (.int (nI i))] [] := by
    intro k
    induction k using Nat.strongRecOn with
    | ind k ih =>
      intro i hk hi
      refine V_iload_n d_T_setName_14 rfl ?_
      refine V_aload_n d_T_setName_15 rfl ?_
      refine V_getfield d_T_setName_16 fl_T_21 (og_0) rfl ?_
      refine V_icmp_geN 55 d_T_setName_19 (by decide) (by omega) (by omega) (fun c => ?_) (fun c => ?_)
      · exact V_return d_T_setName_55 rfl ⟨rfl, by rw [show i = pl by omega], rfl⟩
      · rcases ho : va_up g j q i with _ | k
        · refine V_aload_n d_T_setName_22 rfl ?_
          refine V_getfield d_T_setName_23 fl_T_9 (og_0) rfl ?_
          refine V_iload_n d_T_setName_26 rfl ?_
          refine V_iaload d_T_setName_27 (og_1 (by omega)) ⟨rfl, by omega, by decide⟩ ?_
          refine V_iconst (-1) d_T_setName_28 rfl ?_
          refine V_icmp_eq 49 d_T_setName_29 (by decide) (fun _ => ?_) (fun q => absurd (by rw [ho]; rfl) q)
          rw [show lgx (va_up g j q) i = lgx (va_up g j q) (i + 1) by simp [lgx, ho, ob_]]
          refine V_iincN_3 1 d_T_setName_49 rfl rfl ?_
          refine V_goto 14 d_T_setName_52 (by decide) ?_
          exact ih (pl - (i + 1)) (by omega) (i + 1) rfl (by omega)
        · refine V_aload_n d_T_setName_22 rfl ?_
          refine V_getfield d_T_setName_23 fl_T_9 (og_0) rfl ?_
          refine V_iload_n d_T_setName_26 rfl ?_
          refine V_iaload d_T_setName_27 (og_1 (by omega)) ⟨rfl, by omega, by decide⟩ ?_
          refine V_iconst (-1) d_T_setName_28 rfl ?_
          refine V_icmp_eq 49 d_T_setName_29 (by decide) (fun q => absurd q (by rw [ho]; exact en_ne (hv i k (by omega) ho))) (fun _ => ?_)
          refine V_aload_n d_T_setName_32 rfl ?_
          refine V_dup d_T_setName_33 rfl ?_
          refine V_getfield d_T_setName_34 fl_T_25 (og_0) rfl ?_
          refine V_iconst (nI 1) d_T_setName_37 rfl ?_
          refine V_aload_n d_T_setName_38 rfl ?_
          refine V_getfield d_T_setName_39 fl_T_9 (og_0) rfl ?_
          refine V_iload_n d_T_setName_42 rfl ?_
          refine V_iaload d_T_setName_43 (og_1 (by omega)) ⟨rfl, by omega, by decide⟩ ?_
          refine V_eqI (y := nI k) (by rw [ho]; rfl) ?_
          refine V_ishlN d_T_setName_44 (by have := hv i k (by omega) ho; omega) ?_
          rw [Nat.one_mul]
          refine V_ixorN d_T_setName_45 ?_
          refine V_put (e' := oT a (nI pl) (nI (lgx (va_up g j q) (i + 1)))) d_T_setName_46 fp_T_25 og_0 rfl rfl rfl (by simp only [lgx, ho, ob_]; rfl) ou_0 ?_
          refine V_iincN_3 1 d_T_setName_49 rfl rfl ?_
          refine V_goto 14 d_T_setName_52 (by decide) ?_
          exact ih (pl - (i + 1)) (by omega) (i + 1) rfl (by omega)
  refine hv_N.of' [some (.ref a), some (.int (nI j)), some (.int (en_ q)), none] (by decide +kernel) rfl rfl rfl ?_
  refine V_aload_n d_T_setName_0 rfl ?_
  refine V_getfield d_T_setName_1 fl_T_9 ha rfl ?_
  refine V_iload_n d_T_setName_4 rfl ?_
  refine V_iload_n d_T_setName_5 rfl ?_
  refine V_ist d_T_setName_6 hg ⟨rfl, hj, by decide⟩ (h' := hv_ov h [(a, oT a (nI pl) lg), (a + 1, eM 6 (va_up g j q))]) (by rw [en_up]; exact (hv_up_self (by rw [hv_up_n (by omega)]; exact ha)).symm) ?_
  refine V_aload_n d_T_setName_7 rfl ?_
  refine V_iconst (nI 0) d_T_setName_8 rfl ?_
  refine V_put (e' := oT a (nI pl) (nI 0)) d_T_setName_9 fp_T_25 (og_0) rfl rfl rfl rfl (ou_0) ?_
  refine V_iconst (nI 0) d_T_setName_12 rfl ?_
  refine V_istore_3 d_T_setName_13 rfl ?_
  exact lp _ 0 rfl (Nat.zero_le _)

set_option maxRecDepth 100000 in
set_option maxHeartbeats 4000000 in
theorem c_T_namesWithBit (l : Launch) (D : hv_D) (h : hv_P) (nx : Nat) {a pl x v : Nat} {lg : Int32} {g : Nat → Option Nat} (ha : h a = some (oT a (nI pl) lg)) (hg : h (a + 1) = some (eM 6 g)) (hpl : pl ≤ 6) (hx : x < 2 ^ 31) (hvv : v < 2) (hv : ∀ p k, p < 6 → g p = some k → k < 20) : hv_N l D M_T_namesWithBit (hv_rm 0 0 0 0) [.ref a, .int (nI x), .int (nI v)] h nx (hv_ans (some (.int (nI (nwb g x v pl)))) (hv_same h nx)) := by
  have lp : ∀ (k i : Nat), k = pl - i → i ≤ pl → hv_V l D M_T_namesWithBit (fun _ _ => True) (hv_rm 0 0 0 0) (hv_ans (some (.int (nI (nwb g x v pl)))) (hv_same h nx)) 0 0 (h) nx 5 [some (.ref a), some (.int (nI x)), some (.int (nI v)), some (.int (nI (nwb g x v i))), some (.int (nI i))] [] := by
    intro k
    induction k using Nat.strongRecOn with
    | ind k ih =>
      intro i hk hi
      refine V_iload d_T_namesWithBit_5 rfl ?_
      refine V_aload_n d_T_namesWithBit_7 rfl ?_
      refine V_getfield d_T_namesWithBit_8 fl_T_21 ha rfl ?_
      refine V_icmp_geN 53 d_T_namesWithBit_11 (by decide) (by omega) (by omega) (fun c => ?_) (fun c => ?_)
      · refine V_iload_n d_T_namesWithBit_53 rfl ?_
        exact V_ireturn d_T_namesWithBit_54 rfl ⟨by rw [show i = pl by omega], rfl, rfl⟩
      · refine V_iload_n d_T_namesWithBit_14 rfl ?_
        refine V_iload d_T_namesWithBit_15 rfl ?_
        refine V_ishrN d_T_namesWithBit_17 hx (by omega) ?_
        refine V_iconst (nI 1) d_T_namesWithBit_18 rfl ?_
        refine V_iandN d_T_namesWithBit_19 ?_
        rw [Nat.and_one_is_mod]
        refine V_iload_n d_T_namesWithBit_20 rfl ?_
        refine V_icmp_neN 47 d_T_namesWithBit_21 (by decide) (by omega) (by omega) (fun cb => ?_) (fun cb => ?_)
        · rw [show nwb g x v i = nwb g x v (i + 1) by simp [nwb, cb]]
          refine V_iincN_4 1 d_T_namesWithBit_47 rfl rfl ?_
          refine V_goto 5 d_T_namesWithBit_50 (by decide) ?_
          exact ih (pl - (i + 1)) (by omega) (i + 1) rfl (by omega)
        · rcases ho : g i with _ | k
          · refine V_aload_n d_T_namesWithBit_24 rfl ?_
            refine V_getfield d_T_namesWithBit_25 fl_T_9 ha rfl ?_
            refine V_iload d_T_namesWithBit_28 rfl ?_
            refine V_iaload d_T_namesWithBit_30 hg ⟨rfl, by omega, by decide⟩ ?_
            refine V_iconst (-1) d_T_namesWithBit_31 rfl ?_
            refine V_icmp_eq 47 d_T_namesWithBit_32 (by decide) (fun _ => ?_) (fun q => absurd (by rw [ho]; rfl) q)
            rw [show nwb g x v i = nwb g x v (i + 1) by simp [nwb, cb, ho, ob_]]
            refine V_iincN_4 1 d_T_namesWithBit_47 rfl rfl ?_
            refine V_goto 5 d_T_namesWithBit_50 (by decide) ?_
            exact ih (pl - (i + 1)) (by omega) (i + 1) rfl (by omega)
          · refine V_aload_n d_T_namesWithBit_24 rfl ?_
            refine V_getfield d_T_namesWithBit_25 fl_T_9 ha rfl ?_
            refine V_iload d_T_namesWithBit_28 rfl ?_
            refine V_iaload d_T_namesWithBit_30 hg ⟨rfl, by omega, by decide⟩ ?_
            refine V_iconst (-1) d_T_namesWithBit_31 rfl ?_
            refine V_icmp_eq 47 d_T_namesWithBit_32 (by decide) (fun q => absurd q (by rw [ho]; exact en_ne (hv i k (by omega) ho))) (fun _ => ?_)
            refine V_iload_n d_T_namesWithBit_35 rfl ?_
            refine V_iconst (nI 1) d_T_namesWithBit_36 rfl ?_
            refine V_aload_n d_T_namesWithBit_37 rfl ?_
            refine V_getfield d_T_namesWithBit_38 fl_T_9 ha rfl ?_
            refine V_iload d_T_namesWithBit_41 rfl ?_
            refine V_iaload d_T_namesWithBit_43 hg ⟨rfl, by omega, by decide⟩ ?_
            refine V_eqI (y := nI k) (by rw [ho]; rfl) ?_
            refine V_ishlN d_T_namesWithBit_44 (by have := hv i k (by omega) ho; omega) ?_
            refine V_iorN d_T_namesWithBit_45 ?_
            rw [Nat.one_mul, show nwb g x v i ||| 2 ^ k = nwb g x v (i + 1) by simp [nwb, cb, ho, ob_]]
            refine V_istore_3 d_T_namesWithBit_46 rfl ?_
            refine V_iincN_4 1 d_T_namesWithBit_47 rfl rfl ?_
            refine V_goto 5 d_T_namesWithBit_50 (by decide) ?_
            exact ih (pl - (i + 1)) (by omega) (i + 1) rfl (by omega)
  refine hv_N.of' [some (.ref a), some (.int (nI x)), some (.int (nI v)), none, none] (by decide +kernel) rfl rfl rfl ?_
  refine V_iconst (nI 0) d_T_namesWithBit_0 rfl ?_
  refine V_istore_3 d_T_namesWithBit_1 rfl ?_
  refine V_iconst (nI 0) d_T_namesWithBit_2 rfl ?_
  refine V_istore_4 d_T_namesWithBit_3 rfl ?_
  exact lp _ 0 rfl (Nat.zero_le _)

set_option maxRecDepth 100000 in
set_option maxHeartbeats 4000000 in
theorem c_T_makeNew (l : Launch) (D : hv_D) (h : hv_P) (nx : Nat) {a : Nat} {pl lg p : Int32} {f1 f2 f3 : Nat → Int32} (ha : h a = some (oT a pl lg)) (h1 : h (a + 1) = some (eI 6 f1)) (h2 : h (a + 2) = some (eI 64 f2)) (h3 : h (a + 3) = some (eI 64 f3)) : hv_N l D M_T_makeNew (hv_rm 1 23 0 0) [.ref a, .int p] h nx (hv_ans none (fun h' n' => h' = hv_ov h [(a, oT a p 0), (a + 1, eI 6 (hv_fill f1 6 (-1))), (a + 2, eI 64 (hv_fill f2 64 0)), (a + 3, eI 64 (hv_fill f3 64 0))] ∧ n' = nx)) := by
  refine hv_N.of' [some (.ref a), some (.int p)] (by decide +kernel) rfl rfl rfl ?_
  refine V_eqH (ob_4 ha h1 h2 h3) ?_
  refine V_aload_n d_T_makeNew_0 rfl ?_
  refine V_iload_n d_T_makeNew_1 rfl ?_
  refine V_put (e' := oT a p lg) d_T_makeNew_2 fp_T_21 (og_0) rfl rfl rfl rfl (ou_0) ?_
  refine V_aload_n d_T_makeNew_5 rfl ?_
  refine V_iconst (0) d_T_makeNew_6 rfl ?_
  refine V_put (e' := oT a p 0) d_T_makeNew_7 fp_T_25 (og_0) rfl rfl rfl rfl (ou_0) ?_
  refine V_aload_n d_T_makeNew_10 rfl ?_
  refine V_getfield d_T_makeNew_11 fl_T_9 (og_0) rfl ?_
  refine V_iconst (-1) d_T_makeNew_14 rfl ?_
  refine V_callS0 d_T_makeNew_15 ml_T_28 mB_JA_fill ms_JA_fill (c_fill l D _ _ (-1) (og_1 (by omega)) (by decide)) rfl rfl rfl rfl rfl rfl rfl ?_
  rintro _ _ ⟨rfl, rfl⟩
  rw [ou_1 (by omega)]
  refine V_aload_n d_T_makeNew_18 rfl ?_
  refine V_getfield d_T_makeNew_19 fl_T_15 (og_0) rfl ?_
  refine V_iconst (0) d_T_makeNew_22 rfl ?_
  refine V_callS0 d_T_makeNew_23 ml_T_28 mB_JA_fill ms_JA_fill (c_fill l D _ _ 0 (og_2 (by omega) (by omega)) (by decide)) rfl rfl rfl rfl rfl rfl rfl ?_
  rintro _ _ ⟨rfl, rfl⟩
  rw [ou_2 (by omega) (by omega)]
  refine V_aload_n d_T_makeNew_26 rfl ?_
  refine V_getfield d_T_makeNew_27 fl_T_18 (og_0) rfl ?_
  refine V_iconst (0) d_T_makeNew_30 rfl ?_
  refine V_callS0 d_T_makeNew_31 ml_T_28 mB_JA_fill ms_JA_fill (c_fill l D _ _ 0 (og_3 (by omega) (by omega) (by omega)) (by decide)) rfl rfl rfl rfl rfl rfl rfl ?_
  rintro _ _ ⟨rfl, rfl⟩
  rw [ou_3 (by omega) (by omega) (by omega)]
  exact V_return d_T_makeNew_34 rfl ⟨rfl, rfl, rfl⟩
end
section
-- GREEDY: what is chosen
theorem pc_20 {x : Nat} (h : x < 2 ^ 20) : pc_ x = pc_n x 20 := pc_n_lt h 12
theorem pc_le {x : Nat} (h : x < 2 ^ 20) : pc_ x ≤ 20 := by rw [pc_20 h]; exact pc_n_le x 20
/-- what joining the things i, j gains -/
def gI (L : Nat → Nat) (i j : Nat) : Int32 := nI (2 ^ pc_ (L i ^^^ L j)) - nI (2 ^ pc_ (L i)) - nI (2 ^ pc_ (L j))
def lsI (L : Nat → Nat) (b : Option (Nat × Nat)) : Int32 := match b with
  | none => 1073741824
  | some q => gI L q.1 q.2
def chS (L : Nat → Nat) (gn : Nat) (b : Option (Nat × Nat)) (i j : Nat) : Option (Nat × Nat) := if gn.testBit i = false ∧ gn.testBit j = false ∧ gI L i j < lsI L b then some (i, j) else b
def chJ (L : Nat → Nat) (gn i j0 : Nat) (b : Option (Nat × Nat)) : Nat → Option (Nat × Nat)
  | 0 => b
  | m + 1 => chS L gn (chJ L gn i j0 b m) i (j0 + m)
def chI (L : Nat → Nat) (gn n : Nat) : Nat → Option (Nat × Nat)
  | 0 => none
  | i + 1 => chJ L gn i (i + 1) (chI L gn n i) (n - (i + 1))
def lesS (b : Option (Nat × Nat)) (f : Nat → Nat) (t : Nat) : Nat → Nat := match b with
  | none => f
  | some q => va_up f t q.1
def othS (b : Option (Nat × Nat)) (f : Nat → Nat) (t : Nat) : Nat → Nat := match b with
  | none => f
  | some q => va_up f t q.2
theorem va_up_up {α : Type} (f : Nat → α) (k : Nat) (v w : α) : va_up (va_up f k v) k w = va_up f k w := bx_uu f k v w
theorem lesS_up (b : Option (Nat × Nat)) (f : Nat → Nat) (t i j : Nat) : va_up (lesS b f t) t i = lesS (some (i, j)) f t := by
  cases b with
  | none => rfl
  | some q => exact va_up_up f t q.1 i
theorem othS_up (b : Option (Nat × Nat)) (f : Nat → Nat) (t i j : Nat) : va_up (othS b f t) t j = othS (some (i, j)) f t := by
  cases b with
  | none => rfl
  | some q => exact va_up_up f t q.2 j
theorem chJ_gone {L : Nat → Nat} {gn i j0 : Nat} {b : Option (Nat × Nat)} (h : gn.testBit i = true) : ∀ m, chJ L gn i j0 b m = b
  | 0 => rfl
  | m + 1 => by simp [chJ, chS, h, chJ_gone h m]
set_option maxRecDepth 100000 in
set_option maxHeartbeats 4000000 in
theorem c_G_addThing (l : Launch) (D : hv_D) (h : hv_P) (nx : Nat) {a : Nat} {gn ac : Int32} {L Z : Nat → Nat} (ha : h a = some (oG a gn ac)) (hL : h (a + 1) = some (eN 20 L)) (hZ : h (a + 2) = some (eN 20 Z)) {j x : Nat} (hj : j < 20) (hx : x < 2 ^ 20) : hv_N l D M_G_addThing (hv_rm 1 20 0 0) [.ref a, .int (nI j), .int (nI x)] h nx (hv_ans none (fun h' n' => h' = hv_ov h [(a, oG a gn ac), (a + 1, eN 20 (va_up L j x)), (a + 2, eN 20 (va_up Z j (2 ^ pc_ x)))] ∧ n' = nx)) := by
  refine hv_N.of' [some (.ref a), some (.int (nI j)), some (.int (nI x))] (by decide +kernel) rfl rfl rfl ?_
  refine V_eqH (ob_3 ha hL hZ) ?_
  refine V_aload_n d_G_addThing_0 rfl ?_
  refine V_getfield d_G_addThing_1 fl_G_9 (og_0) rfl ?_
  refine V_iload_n d_G_addThing_4 rfl ?_
  refine V_iload_n d_G_addThing_5 rfl ?_
  refine V_istN d_G_addThing_6 (og_1 (by omega)) ⟨rfl, hj, by decide⟩ (ou_1 (by omega)) ?_
  refine V_aload_n d_G_addThing_7 rfl ?_
  refine V_getfield d_G_addThing_8 fl_G_15 (og_0) rfl ?_
  refine V_iload_n d_G_addThing_11 rfl ?_
  refine V_iconst (nI 1) d_G_addThing_12 rfl ?_
  refine V_iload_n d_G_addThing_13 rfl ?_
  refine V_callS1 d_G_addThing_14 ml_G_38 mB_JI_bitCount ms_JI_bitCount (c_bitCount l D _ _ (by omega)) rfl rfl rfl rfl rfl rfl rfl ?_
  rintro _ _ ⟨rfl, rfl⟩
  refine V_ishlN d_G_addThing_17 (by have := pc_le hx; omega) ?_
  rw [Nat.one_mul]
  refine V_istN d_G_addThing_18 (og_2 (by omega) (by omega)) ⟨rfl, hj, by decide⟩ (ou_2 (by omega) (by omega)) ?_
  exact V_return d_G_addThing_19 rfl ⟨rfl, rfl, rfl⟩

set_option maxRecDepth 100000 in
set_option maxHeartbeats 4000000 in
theorem c_G_choose (l : Launch) (D : hv_D) (h : hv_P) (nx : Nat) {a gn n t : Nat} {ac : Int32} {L Z les oth : Nat → Nat} (ha : h a = some (oG a (nI gn) ac)) (hL : h (a + 1) = some (eN 20 L)) (hZ : h (a + 2) = some (eN 20 Z)) (hles : h (a + 3) = some (eN 10 les)) (hoth : h (a + 4) = some (eN 10 oth)) (hgn : gn < 2 ^ 31) (hn : n ≤ 20) (ht : t < 10) (hLl : ∀ i, i < n → L i < 2 ^ 20) (hZl : ∀ i, i < n → Z i = 2 ^ pc_ (L i)) : hv_N l D M_G_choose (hv_rm 1 21 0 0) [.ref a, .int (nI t), .int (nI n)] h nx (hv_ans none (fun h' n' => h' = hv_ov h [(a, oG a (nI gn) ac), (a + 1, eN 20 L), (a + 2, eN 20 Z), (a + 3, eN 10 (lesS (chI L gn n n) les t)), (a + 4, eN 10 (othS (chI L gn n n) oth t))] ∧ n' = nx)) := by
  have lp : ∀ (k i : Nat), k = n - i → i ≤ n → hv_V l D M_G_choose (fun _ _ => True) (hv_rm 1 21 0 0) (hv_ans none (fun h' n' => h' = hv_ov h [(a, oG a (nI gn) ac), (a + 1, eN 20 L), (a + 2, eN 20 Z), (a + 3, eN 10 (lesS (chI L gn n n) les t)), (a + 4, eN 10 (othS (chI L gn n n) oth t))] ∧ n' = nx)) 0 0 (hv_ov h [(a, oG a (nI gn) ac), (a + 1, eN 20 L), (a + 2, eN 20 Z), (a + 3, eN 10 (lesS (chI L gn n i) les t)), (a + 4, eN 10 (othS (chI L gn n i) oth t))]) nx 6 [some (.ref a), some (.int (nI t)), some (.int (nI n)), some (.int (lsI L (chI L gn n i))), some (.int (nI i)), none, none, none] [] := by
    intro k
    induction k using Nat.strongRecOn with
    | ind k ih =>
      intro i hk hi
      refine V_iload d_G_choose_6 rfl ?_
      refine V_iload_n d_G_choose_8 rfl ?_
      refine V_icmp_geN 127 d_G_choose_9 (by decide) (by omega) (by omega) (fun ci => ?_) (fun ci => ?_)
      · exact V_return d_G_choose_127 rfl ⟨rfl, by rw [show i = n by omega], rfl⟩
      · have lp2 : ∀ (k m : Nat), k = (n - (i + 1)) - m → m ≤ (n - (i + 1)) → hv_V l D M_G_choose (fun _ _ => True) (hv_rm 1 21 0 0) (hv_ans none (fun h' n' => h' = hv_ov h [(a, oG a (nI gn) ac), (a + 1, eN 20 L), (a + 2, eN 20 Z), (a + 3, eN 10 (lesS (chI L gn n n) les t)), (a + 4, eN 10 (othS (chI L gn n n) oth t))] ∧ n' = nx)) 0 0 (hv_ov h [(a, oG a (nI gn) ac), (a + 1, eN 20 L), (a + 2, eN 20 Z), (a + 3, eN 10 (lesS (chJ L gn i (i + 1) (chI L gn n i) m) les t)), (a + 4, eN 10 (othS (chJ L gn i (i + 1) (chI L gn n i) m) oth t))]) nx 18 [some (.ref a), some (.int (nI t)), some (.int (nI n)), some (.int (lsI L (chJ L gn i (i + 1) (chI L gn n i) m))), some (.int (nI i)), some (.int (nI (i + 1 + m))), none, none] [] := by
          intro k2
          induction k2 using Nat.strongRecOn with
          | ind k2 ih2 =>
            intro m hk2 hm
            refine V_iload d_G_choose_18 rfl ?_
            refine V_iload_n d_G_choose_20 rfl ?_
            refine V_icmp_geN 121 d_G_choose_21 (by decide) (by omega) (by omega) (fun cj => ?_) (fun cj => ?_)
            · refine V_iincN_4 1 d_G_choose_121 rfl rfl ?_
              refine V_goto 6 d_G_choose_124 (by decide) ?_
              refine V_drop_5 ?_
              refine V_drop_6 ?_
              refine V_drop_7 ?_
              rw [show m = n - (i + 1) by omega]
              exact ih (n - (i + 1)) (by omega) (i + 1) rfl (by omega)
            · cases hgi : gn.testBit i
              · refine V_iload d_G_choose_24 rfl ?_
                refine V_aload_n d_G_choose_26 rfl ?_
                refine V_getfield d_G_choose_27 fl_G_24 (og_0) rfl ?_
                refine V_callS1 d_G_choose_30 ml_G_45 mB_N_isIn ms_N_isIn (c_N_isIn l D _ _ hgn (by omega)) rfl rfl rfl rfl rfl rfl rfl ?_
                rintro _ _ ⟨rfl, rfl⟩
                refine V_if_ne 121 d_G_choose_33 (by decide) (fun q => absurd (by rw [hgi]; decide) q) (fun _ => ?_)
                refine V_iconst (nI 1) d_G_choose_36 rfl ?_
                refine V_aload_n d_G_choose_37 rfl ?_
                refine V_getfield d_G_choose_38 fl_G_9 (og_0) rfl ?_
                refine V_iload d_G_choose_41 rfl ?_
                refine V_iaload d_G_choose_43 (og_1 (by omega)) ⟨rfl, by omega, by decide⟩ ?_
                refine V_aload_n d_G_choose_44 rfl ?_
                refine V_getfield d_G_choose_45 fl_G_9 (og_0) rfl ?_
                refine V_iload d_G_choose_48 rfl ?_
                refine V_iaload d_G_choose_50 (og_1 (by omega)) ⟨rfl, by omega, by decide⟩ ?_
                refine V_ixorN d_G_choose_51 ?_
                refine V_callS1 d_G_choose_52 ml_G_38 mB_JI_bitCount ms_JI_bitCount (c_bitCount l D _ _ (Nat.lt_of_lt_of_le (Nat.xor_lt_two_pow (hLl i (by omega)) (hLl (i + 1 + m) (by omega))) (by decide))) rfl rfl rfl rfl rfl rfl rfl ?_
                rintro _ _ ⟨rfl, rfl⟩
                refine V_ishlN d_G_choose_55 (by have := pc_le (Nat.xor_lt_two_pow (hLl i (by omega)) (hLl (i + 1 + m) (by omega))); omega) ?_
                rw [Nat.one_mul]
                refine V_istore_6 d_G_choose_56 rfl ?_
                refine V_iload d_G_choose_58 rfl ?_
                refine V_aload_n d_G_choose_60 rfl ?_
                refine V_getfield d_G_choose_61 fl_G_15 (og_0) rfl ?_
                refine V_iload d_G_choose_64 rfl ?_
                refine V_iaload d_G_choose_66 (og_2 (by omega) (by omega)) ⟨rfl, by omega, by decide⟩ ?_
                refine V_isub d_G_choose_67 ?_
                refine V_aload_n d_G_choose_68 rfl ?_
                refine V_getfield d_G_choose_69 fl_G_15 (og_0) rfl ?_
                refine V_iload d_G_choose_72 rfl ?_
                refine V_iaload d_G_choose_74 (og_2 (by omega) (by omega)) ⟨rfl, by omega, by decide⟩ ?_
                refine V_isub d_G_choose_75 ?_
                refine V_eqI (y := gI L i (i + 1 + m)) (by unfold gI; rw [hZl i (by omega), hZl (i + 1 + m) (by omega)]) ?_
                refine V_istore_7 d_G_choose_76 rfl ?_
                refine V_iload d_G_choose_78 rfl ?_
                refine V_iload_n d_G_choose_80 rfl ?_
                refine V_icmp_ge 115 d_G_choose_81 (by decide) (fun cl => ?_) (fun cl => ?_)
                · rw [show chJ L gn i (i + 1) (chI L gn n i) m = chJ L gn i (i + 1) (chI L gn n i) (m + 1) by simp only [chJ, chS]; rw [if_neg (by intro q; exact absurd q.2.2 (Int32.not_lt.mpr cl))]]
                  refine V_iincN_5 1 d_G_choose_115 rfl rfl ?_
                  refine V_goto 18 d_G_choose_118 (by decide) ?_
                  refine V_drop_6 ?_
                  refine V_drop_7 ?_
                  exact ih2 (n - (i + 1) - (m + 1)) (by omega) (m + 1) rfl (by omega)
                · cases hgj : gn.testBit (i + 1 + m)
                  · refine V_iload d_G_choose_84 rfl ?_
                    refine V_aload_n d_G_choose_86 rfl ?_
                    refine V_getfield d_G_choose_87 fl_G_24 (og_0) rfl ?_
                    refine V_callS1 d_G_choose_90 ml_G_45 mB_N_isIn ms_N_isIn (c_N_isIn l D _ _ hgn (by omega)) rfl rfl rfl rfl rfl rfl rfl ?_
                    rintro _ _ ⟨rfl, rfl⟩
                    refine V_if_ne 115 d_G_choose_93 (by decide) (fun q => absurd (by rw [hgj]; decide) q) (fun _ => ?_)
                    refine V_iload d_G_choose_96 rfl ?_
                    refine V_istore_3 d_G_choose_98 rfl ?_
                    refine V_aload_n d_G_choose_99 rfl ?_
                    refine V_getfield d_G_choose_100 fl_G_18 (og_0) rfl ?_
                    refine V_iload_n d_G_choose_103 rfl ?_
                    refine V_iload d_G_choose_104 rfl ?_
                    refine V_istN d_G_choose_106 (og_3 (by omega) (by omega) (by omega)) ⟨rfl, ht, by decide⟩ (h' := hv_ov h [(a, oG a (nI gn) ac), (a + 1, eN 20 L), (a + 2, eN 20 Z), (a + 3, eN 10 (lesS (some (i, i + 1 + m)) les t)), (a + 4, eN 10 (othS (chJ L gn i (i + 1) (chI L gn n i) m) oth t))]) (by rw [lesS_up _ _ _ _ (i + 1 + m)]; exact ou_3 (by omega) (by omega) (by omega)) ?_
                    refine V_aload_n d_G_choose_107 rfl ?_
                    refine V_getfield d_G_choose_108 fl_G_21 (og_0) rfl ?_
                    refine V_iload_n d_G_choose_111 rfl ?_
                    refine V_iload d_G_choose_112 rfl ?_
                    refine V_istN d_G_choose_114 (og_4 (by omega) (by omega) (by omega) (by omega)) ⟨rfl, ht, by decide⟩ (h' := hv_ov h [(a, oG a (nI gn) ac), (a + 1, eN 20 L), (a + 2, eN 20 Z), (a + 3, eN 10 (lesS (some (i, i + 1 + m)) les t)), (a + 4, eN 10 (othS (some (i, i + 1 + m)) oth t))]) (by rw [othS_up _ _ _ i _]; exact ou_4 (by omega) (by omega) (by omega) (by omega)) ?_
                    have e1 : chJ L gn i (i + 1) (chI L gn n i) (m + 1) = some (i, i + 1 + m) := by simp only [chJ, chS]; rw [if_pos ⟨hgi, hgj, Int32.not_le.mp cl⟩]
                    rw [← e1, show gI L i (i + 1 + m) = lsI L (chJ L gn i (i + 1) (chI L gn n i) (m + 1)) by rw [e1]; rfl]
                    refine V_iincN_5 1 d_G_choose_115 rfl rfl ?_
                    refine V_goto 18 d_G_choose_118 (by decide) ?_
                    refine V_drop_6 ?_
                    refine V_drop_7 ?_
                    exact ih2 (n - (i + 1) - (m + 1)) (by omega) (m + 1) rfl (by omega)
                  · refine V_iload d_G_choose_84 rfl ?_
                    refine V_aload_n d_G_choose_86 rfl ?_
                    refine V_getfield d_G_choose_87 fl_G_24 (og_0) rfl ?_
                    refine V_callS1 d_G_choose_90 ml_G_45 mB_N_isIn ms_N_isIn (c_N_isIn l D _ _ hgn (by omega)) rfl rfl rfl rfl rfl rfl rfl ?_
                    rintro _ _ ⟨rfl, rfl⟩
                    refine V_if_ne 115 d_G_choose_93 (by decide) (fun _ => ?_) (fun q => absurd q (by rw [hgj]; decide))
                    rw [show chJ L gn i (i + 1) (chI L gn n i) m = chJ L gn i (i + 1) (chI L gn n i) (m + 1) by simp only [chJ, chS]; rw [if_neg (by intro q; rw [hgj] at q; cases q.2.1)]]
                    refine V_iincN_5 1 d_G_choose_115 rfl rfl ?_
                    refine V_goto 18 d_G_choose_118 (by decide) ?_
                    refine V_drop_6 ?_
                    refine V_drop_7 ?_
                    exact ih2 (n - (i + 1) - (m + 1)) (by omega) (m + 1) rfl (by omega)
              · refine V_iload d_G_choose_24 rfl ?_
                refine V_aload_n d_G_choose_26 rfl ?_
                refine V_getfield d_G_choose_27 fl_G_24 (og_0) rfl ?_
                refine V_callS1 d_G_choose_30 ml_G_45 mB_N_isIn ms_N_isIn (c_N_isIn l D _ _ hgn (by omega)) rfl rfl rfl rfl rfl rfl rfl ?_
                rintro _ _ ⟨rfl, rfl⟩
                refine V_if_ne 121 d_G_choose_33 (by decide) (fun _ => ?_) (fun q => absurd q (by rw [hgi]; decide))
                refine V_iincN_4 1 d_G_choose_121 rfl rfl ?_
                refine V_goto 6 d_G_choose_124 (by decide) ?_
                refine V_drop_5 ?_
                refine V_drop_6 ?_
                refine V_drop_7 ?_
                rw [chJ_gone hgi m]
                have e0 : chI L gn n (i + 1) = chI L gn n i := chJ_gone hgi _
                rw [← e0]
                exact ih (n - (i + 1)) (by omega) (i + 1) rfl (by omega)
        refine V_iload d_G_choose_12 rfl ?_
        refine V_iconst (nI 1) d_G_choose_14 rfl ?_
        refine V_iaddN d_G_choose_15 ?_
        refine V_istore_5 d_G_choose_16 rfl ?_
        exact lp2 _ 0 rfl (Nat.zero_le _)
  refine hv_N.of' [some (.ref a), some (.int (nI t)), some (.int (nI n)), none, none, none, none, none] (by decide +kernel) rfl rfl rfl ?_
  refine V_eqH (ob_5 ha hL hZ hles hoth) ?_
  refine V_ldc (v := 1073741824) d_G_choose_0 kc_G_44 ?_
  refine V_istore_3 d_G_choose_2 rfl ?_
  refine V_iconst (nI 0) d_G_choose_3 rfl ?_
  refine V_istore_4 d_G_choose_4 rfl ?_
  exact lp _ 0 rfl (Nat.zero_le _)
end
section
-- GREEDY: the choice exists
theorem sub_small {a b : Int32} {x y : Int} (ha : a.toInt = x) (hb : b.toInt = y) (h1 : -1073741824 ≤ x - y) (h2 : x - y ≤ 1073741824) : (a - b).toInt = x - y := by
  rw [Int32.toInt_sub, ha, hb]
  exact Int.bmod_eq_of_le (by omega) (by omega)
theorem two20 {x : Nat} (h : x < 2 ^ 20) : 1 ≤ 2 ^ pc_ x ∧ 2 ^ pc_ x ≤ 1048576 := ⟨Nat.two_pow_pos _, Nat.pow_le_pow_right (by decide) (pc_le h)⟩
theorem gI_toInt {L : Nat → Nat} {i j : Nat} (hi : L i < 2 ^ 20) (hj : L j < 2 ^ 20) : (gI L i j).toInt = (2 ^ pc_ (L i ^^^ L j) : Nat) - (2 ^ pc_ (L i) : Nat) - (2 ^ pc_ (L j) : Nat) := by
  have h1 := two20 (Nat.xor_lt_two_pow hi hj)
  have h2 := two20 hi
  have h3 := two20 hj
  unfold gI
  exact sub_small (sub_small (nI_toInt (by omega)) (nI_toInt (by omega)) (by omega) (by omega)) (nI_toInt (by omega)) (by omega) (by omega)
theorem gI_lt {L : Nat → Nat} {i j : Nat} (hi : L i < 2 ^ 20) (hj : L j < 2 ^ 20) : gI L i j < 1073741824 := by
  have h1 := two20 (Nat.xor_lt_two_pow hi hj)
  have h2 := two20 hi
  have h3 := two20 hj
  rw [Int32.lt_iff_toInt_lt, gI_toInt hi hj, show (1073741824 : Int32).toInt = 1073741824 from rfl]
  omega
theorem chS_some {L : Nat → Nat} {gn : Nat} {b : Option (Nat × Nat)} {i j : Nat} (h : b ≠ none) : chS L gn b i j ≠ none := by
  unfold chS
  split
  · simp
  · exact h
theorem chJ_some {L : Nat → Nat} {gn i j0 : Nat} {b : Option (Nat × Nat)} (h : b ≠ none) : ∀ m, chJ L gn i j0 b m ≠ none
  | 0 => h
  | m + 1 => chS_some (chJ_some h m)
theorem chJ_hit {L : Nat → Nat} {gn i j0 k : Nat} {b : Option (Nat × Nat)} (gi : gn.testBit i = false) (gj : gn.testBit (j0 + k) = false) (hi : L i < 2 ^ 20) (hj : L (j0 + k) < 2 ^ 20) : ∀ m, k < m → chJ L gn i j0 b m ≠ none
  | 0, h => by omega
  | m + 1, h => by
    by_cases e : k = m
    · subst e
      by_cases hb : chJ L gn i j0 b k = none
      · show chS L gn (chJ L gn i j0 b k) i (j0 + k) ≠ none
        rw [hb]
        unfold chS
        rw [if_pos ⟨gi, gj, gI_lt hi hj⟩]
        simp
      · exact chS_some hb
    · exact chS_some (chJ_hit gi gj hi hj m (by omega))
theorem chI_mono {L : Nat → Nat} {gn n m : Nat} (h : chI L gn n m ≠ none) : ∀ k, chI L gn n (m + k) ≠ none
  | 0 => h
  | k + 1 => chJ_some (chI_mono h k) _
theorem chI_hit {L : Nat → Nat} {gn n i j : Nat} (hij : i < j) (hj : j < n) (gi : gn.testBit i = false) (gj : gn.testBit j = false) (hL : ∀ i, i < n → L i < 2 ^ 20) : chI L gn n n ≠ none := by
  have h1 : chI L gn n (i + 1) ≠ none := chJ_hit (k := j - (i + 1)) gi (by rw [show i + 1 + (j - (i + 1)) = j by omega]; exact gj) (hL i (by omega)) (hL _ (by omega)) _ (by omega)
  have h2 := chI_mono h1 (n - (i + 1))
  rw [show i + 1 + (n - (i + 1)) = n by omega] at h2
  exact h2
/-- what is chosen: two things that are there, the lesser number first -/
def chOk (gn n : Nat) (b : Option (Nat × Nat)) : Prop := ∀ p q, b = some (p, q) → p < q ∧ q < n ∧ gn.testBit p = false ∧ gn.testBit q = false
theorem chS_ok {L : Nat → Nat} {gn n : Nat} {b : Option (Nat × Nat)} {i j : Nat} (hij : i < j) (hj : j < n) (h : chOk gn n b) : chOk gn n (chS L gn b i j) := by
  intro p q e
  unfold chS at e
  split at e
  · rename_i c
    cases e
    exact ⟨hij, hj, c.1, c.2.1⟩
  · exact h p q e
theorem chJ_ok {L : Nat → Nat} {gn n i j0 : Nat} {b : Option (Nat × Nat)} (h : chOk gn n b) (hi : i < j0) : ∀ m, j0 + m ≤ n → chOk gn n (chJ L gn i j0 b m)
  | 0, _ => h
  | m + 1, hm => chS_ok (by omega) (by omega) (chJ_ok h hi m (by omega))
theorem chI_ok {L : Nat → Nat} {gn n : Nat} : ∀ m, m ≤ n → chOk gn n (chI L gn n m)
  | 0, _ => fun p q e => by cases e
  | m + 1, h => chJ_ok (chI_ok m (by omega)) (by omega) _ (by omega)
theorem two_left : ∀ {n gn : Nat}, pc_n gn n + 2 ≤ n → ∃ i j, i < j ∧ j < n ∧ gn.testBit i = false ∧ gn.testBit j = false
  | 0, gn, h => by simp [pc_n] at h
  | n + 1, gn, h => by
    cases hb : gn.testBit n with
    | true =>
      obtain ⟨i, j, h1, h2, h3, h4⟩ := two_left (n := n) (gn := gn) (by simp [pc_n, hb] at h; omega)
      exact ⟨i, j, h1, by omega, h3, h4⟩
    | false =>
      have one : ∀ {m : Nat}, pc_n gn m + 1 ≤ m → ∃ i, i < m ∧ gn.testBit i = false := by
        intro m
        induction m with
        | zero => intro q; simp [pc_n] at q
        | succ m ih =>
          intro q
          cases hm : gn.testBit m with
          | false => exact ⟨m, by omega, hm⟩
          | true =>
            obtain ⟨i, a, b⟩ := ih (by simp [pc_n, hm] at q; omega)
            exact ⟨i, by omega, b⟩
      obtain ⟨i, a, b⟩ := one (m := n) (by simp [pc_n, hb] at h; omega)
      exact ⟨i, n, a, by omega, b, hb⟩
theorem pc_n_set : ∀ {n gn p : Nat}, gn.testBit p = false → p < n → pc_n (gn ||| 2 ^ p) n = pc_n gn n + 1
  | 0, gn, p, _, h => by omega
  | n + 1, gn, p, hp, h => by
    simp only [pc_n, Nat.testBit_or, Nat.testBit_two_pow]
    by_cases e : p = n
    · subst e
      have : ∀ m, m ≤ p → pc_n (gn ||| 2 ^ p) m = pc_n gn m := by
        intro m
        induction m with
        | zero => intro _; rfl
        | succ m ih =>
          intro hm
          simp only [pc_n, Nat.testBit_or, Nat.testBit_two_pow, ih (by omega)]
          have : ¬ p = m := by omega
          simp [this]
      simp [this p (Nat.le_refl _), hp]
    · rw [pc_n_set hp (by omega)]
      simp [e]
      omega
-- the whole run: legs, sizes, what is gone, who was joined, costs
abbrev gst : Type := (Nat → Nat) × (Nat → Nat) × Nat × (Nat → Nat) × (Nat → Nat) × Nat
def gtu (c : Nat) (s : gst) (t : Nat) : gst := match chI s.1 s.2.2.1 (c + t) (c + t) with
  | none => s
  | some (p, q) => (va_up s.1 (c + t) (s.1 p ^^^ s.1 q), va_up s.2.1 (c + t) (2 ^ pc_ (s.1 p ^^^ s.1 q)), s.2.2.1 ||| (2 ^ p ||| 2 ^ q), va_up s.2.2.2.1 t p, va_up s.2.2.2.2.1 t q, s.2.2.2.2.2 + 2 ^ pc_ (s.1 p ||| s.1 q))
def grun (c : Nat) (s : gst) : Nat → gst
  | 0 => s
  | t + 1 => gtu c (grun c s t) t
def gok (c : Nat) (s : gst) (t : Nat) : Prop := pc_n s.2.2.1 (c + t) = 2 * t ∧ s.2.2.1 < 2 ^ (c + t) ∧ ∀ i, i < c + t → s.1 i < 2 ^ 20 ∧ s.2.1 i = 2 ^ pc_ (s.1 i)
theorem gok_ch {c t : Nat} {s : gst} (h : gok c s t) (ht : t + 1 < c) : ∃ p q, chI s.1 s.2.2.1 (c + t) (c + t) = some (p, q) ∧ p < q ∧ q < c + t ∧ s.2.2.1.testBit p = false ∧ s.2.2.1.testBit q = false := by
  obtain ⟨i, j, h1, h2, h3, h4⟩ := two_left (n := c + t) (gn := s.2.2.1) (by rw [h.1]; omega)
  have h5 := chI_hit (L := s.1) h1 h2 h3 h4 (fun i hi => (h.2.2 i hi).1)
  cases hc : chI s.1 s.2.2.1 (c + t) (c + t) with
  | none => exact absurd hc h5
  | some b => exact ⟨b.1, b.2, rfl, chI_ok (c + t) (Nat.le_refl _) b.1 b.2 hc⟩
theorem gok_s {c t : Nat} {s : gst} (h : gok c s t) (ht : t + 1 < c) : gok c (gtu c s t) (t + 1) := by
  obtain ⟨p, q, hc, h1, h2, h3, h4⟩ := gok_ch h ht
  obtain ⟨k1, k2, k3⟩ := h
  unfold gtu
  rw [hc]
  have hp : 2 ^ p < 2 ^ (c + t) := Nat.pow_lt_pow_right (by decide) (by omega)
  have hq : 2 ^ q < 2 ^ (c + t) := Nat.pow_lt_pow_right (by decide) (by omega)
  have hlt : s.2.2.1 ||| (2 ^ p ||| 2 ^ q) < 2 ^ (c + t) := Nat.or_lt_two_pow k2 (Nat.or_lt_two_pow hp hq)
  refine ⟨?_, Nat.lt_of_lt_of_le hlt (Nat.pow_le_pow_right (by decide) (by omega)), ?_⟩
  · show pc_n (s.2.2.1 ||| (2 ^ p ||| 2 ^ q)) (c + t + 1) = 2 * (t + 1)
    rw [pc_n_lt hlt 1, ← Nat.or_assoc]
    have h5 : (s.2.2.1 ||| 2 ^ p).testBit q = false := by
      have : ¬ p = q := by omega
      rw [Nat.testBit_or, h4, Nat.testBit_two_pow]
      simp [this]
    rw [pc_n_set h5 h2, pc_n_set h3 (by omega), k1]
    omega
  · intro i hi
    have hx := Nat.xor_lt_two_pow (k3 p (by omega)).1 (k3 q (by omega)).1
    by_cases e : i = c + t
    · subst e
      simp [va_up, hx]
    · have := k3 i (by omega)
      simp only [va_up, if_neg e]
      exact this
theorem gok_r {c : Nat} {s : gst} (h : gok c s 0) : ∀ t, t < c → gok c (grun c s t) t
  | 0, _ => h
  | t + 1, ht => gok_s (gok_r h t (by omega)) ht
def hv_cp {α : Type} (f g : Nat → α) (i : Nat) : Nat → α := fun j => if j < i then f j else g j
theorem hv_cp_0 {α : Type} {f g : Nat → α} : hv_cp f g 0 = g := by funext j; simp [hv_cp]
theorem hv_cp_s {α : Type} {f g : Nat → α} {i : Nat} : va_up (hv_cp f g i) i (f i) = hv_cp f g (i + 1) := by
  funext j
  simp only [va_up, hv_cp]
  split
  · rename_i e; rw [if_pos (by omega), e]
  · split
    · rw [if_pos (by omega)]
    · rw [if_neg (by omega)]
theorem gok_0 {c : Nat} {l1 L0 Z0 les oth : Nat → Nat} (h : ∀ i, i < c → l1 i < 2 ^ 20) : gok c (hv_cp l1 L0 c, hv_cp (fun j => 2 ^ pc_ (l1 j)) Z0 c, 0, les, oth, 0) 0 := by
  refine ⟨pc_n_0 _, Nat.two_pow_pos _, fun i hi => ?_⟩
  have hi : i < c := hi
  simp only [hv_cp, if_pos hi]
  exact ⟨h i hi, trivial⟩
section OX
variable {h : hv_P}
theorem ox_1 {a0 : Nat} {e0 : hv_E} : hv_ov h [(a0, e0)] = hv_up h a0 e0 := rfl
theorem ox_2 {a0 a1 : Nat} {e0 e1 : hv_E} : hv_ov h [(a0, e0), (a1, e1)] = hv_up (hv_up h a1 e1) a0 e0 := rfl
theorem ox_3 {a0 a1 a2 : Nat} {e0 e1 e2 : hv_E} : hv_ov h [(a0, e0), (a1, e1), (a2, e2)] = hv_up (hv_up (hv_up h a2 e2) a1 e1) a0 e0 := rfl
theorem ox_4 {a0 a1 a2 a3 : Nat} {e0 e1 e2 e3 : hv_E} : hv_ov h [(a0, e0), (a1, e1), (a2, e2), (a3, e3)] = hv_up (hv_up (hv_up (hv_up h a3 e3) a2 e2) a1 e1) a0 e0 := rfl
theorem ox_5 {a0 a1 a2 a3 a4 : Nat} {e0 e1 e2 e3 e4 : hv_E} : hv_ov h [(a0, e0), (a1, e1), (a2, e2), (a3, e3), (a4, e4)] = hv_up (hv_up (hv_up (hv_up (hv_up h a4 e4) a3 e3) a2 e2) a1 e1) a0 e0 := rfl
theorem ox_6 {a0 a1 a2 a3 a4 a5 : Nat} {e0 e1 e2 e3 e4 e5 : hv_E} : hv_ov h [(a0, e0), (a1, e1), (a2, e2), (a3, e3), (a4, e4), (a5, e5)] = hv_up (hv_up (hv_up (hv_up (hv_up (hv_up h a5 e5) a4 e4) a3 e3) a2 e2) a1 e1) a0 e0 := rfl
theorem ox_7 {a0 a1 a2 a3 a4 a5 a6 : Nat} {e0 e1 e2 e3 e4 e5 e6 : hv_E} : hv_ov h [(a0, e0), (a1, e1), (a2, e2), (a3, e3), (a4, e4), (a5, e5), (a6, e6)] = hv_up (hv_up (hv_up (hv_up (hv_up (hv_up (hv_up h a6 e6) a5 e5) a4 e4) a3 e3) a2 e2) a1 e1) a0 e0 := rfl
theorem ox_8 {a0 a1 a2 a3 a4 a5 a6 a7 : Nat} {e0 e1 e2 e3 e4 e5 e6 e7 : hv_E} : hv_ov h [(a0, e0), (a1, e1), (a2, e2), (a3, e3), (a4, e4), (a5, e5), (a6, e6), (a7, e7)] = hv_up (hv_up (hv_up (hv_up (hv_up (hv_up (hv_up (hv_up h a7 e7) a6 e6) a5 e5) a4 e4) a3 e3) a2 e2) a1 e1) a0 e0 := rfl
theorem ox_9 {a0 a1 a2 a3 a4 a5 a6 a7 a8 : Nat} {e0 e1 e2 e3 e4 e5 e6 e7 e8 : hv_E} : hv_ov h [(a0, e0), (a1, e1), (a2, e2), (a3, e3), (a4, e4), (a5, e5), (a6, e6), (a7, e7), (a8, e8)] = hv_up (hv_up (hv_up (hv_up (hv_up (hv_up (hv_up (hv_up (hv_up h a8 e8) a7 e7) a6 e6) a5 e5) a4 e4) a3 e3) a2 e2) a1 e1) a0 e0 := rfl
end OX
end
section
-- GREEDY: joinAll
set_option maxRecDepth 100000 in
set_option maxHeartbeats 4000000 in
theorem c_G_joinAll (l : Launch) (D : hv_D) (h : hv_P) (nx : Nat) {a b c : Nat} {gn0 ac0 : Int32} {L0 Z0 les oth l1 : Nat → Nat} (ha : h a = some (oG a gn0 ac0)) (hL : h (a + 1) = some (eN 20 L0)) (hZ : h (a + 2) = some (eN 20 Z0)) (hles : h (a + 3) = some (eN 10 les)) (hoth : h (a + 4) = some (eN 10 oth)) (hb : h b = some (eN 10 l1)) (hbd : b < a ∨ a + 4 < b) (hc1 : 1 ≤ c) (hc2 : c ≤ 10) (hl1 : ∀ i, i < c → l1 i < 2 ^ 20) : hv_N l D M_G_joinAll (hv_rm 2 48 0 0) [.ref a, .ref b, .int (nI c)] h nx (hv_ans none (fun h' n' => h' = hv_ov h [(a, oG a (nI (grun c (hv_cp l1 L0 c, hv_cp (fun j => 2 ^ pc_ (l1 j)) Z0 c, 0, les, oth, 0) (c - 1)).2.2.1) (nI (grun c (hv_cp l1 L0 c, hv_cp (fun j => 2 ^ pc_ (l1 j)) Z0 c, 0, les, oth, 0) (c - 1)).2.2.2.2.2)), (a + 1, eN 20 ((grun c (hv_cp l1 L0 c, hv_cp (fun j => 2 ^ pc_ (l1 j)) Z0 c, 0, les, oth, 0) (c - 1)).1)), (a + 2, eN 20 ((grun c (hv_cp l1 L0 c, hv_cp (fun j => 2 ^ pc_ (l1 j)) Z0 c, 0, les, oth, 0) (c - 1)).2.1)), (a + 3, eN 10 ((grun c (hv_cp l1 L0 c, hv_cp (fun j => 2 ^ pc_ (l1 j)) Z0 c, 0, les, oth, 0) (c - 1)).2.2.2.1)), (a + 4, eN 10 ((grun c (hv_cp l1 L0 c, hv_cp (fun j => 2 ^ pc_ (l1 j)) Z0 c, 0, les, oth, 0) (c - 1)).2.2.2.2.1)), (b, eN 10 l1)] ∧ n' = nx)) := by
  have lp : ∀ (k i : Nat), k = (c - 1) - i → i ≤ (c - 1) → hv_V l D M_G_joinAll (fun _ _ => True) (hv_rm 2 48 0 0) (hv_ans none (fun h' n' => h' = hv_ov h [(a, oG a (nI (grun c (hv_cp l1 L0 c, hv_cp (fun j => 2 ^ pc_ (l1 j)) Z0 c, 0, les, oth, 0) (c - 1)).2.2.1) (nI (grun c (hv_cp l1 L0 c, hv_cp (fun j => 2 ^ pc_ (l1 j)) Z0 c, 0, les, oth, 0) (c - 1)).2.2.2.2.2)), (a + 1, eN 20 ((grun c (hv_cp l1 L0 c, hv_cp (fun j => 2 ^ pc_ (l1 j)) Z0 c, 0, les, oth, 0) (c - 1)).1)), (a + 2, eN 20 ((grun c (hv_cp l1 L0 c, hv_cp (fun j => 2 ^ pc_ (l1 j)) Z0 c, 0, les, oth, 0) (c - 1)).2.1)), (a + 3, eN 10 ((grun c (hv_cp l1 L0 c, hv_cp (fun j => 2 ^ pc_ (l1 j)) Z0 c, 0, les, oth, 0) (c - 1)).2.2.2.1)), (a + 4, eN 10 ((grun c (hv_cp l1 L0 c, hv_cp (fun j => 2 ^ pc_ (l1 j)) Z0 c, 0, les, oth, 0) (c - 1)).2.2.2.2.1)), (b, eN 10 l1)] ∧ n' = nx)) 0 0 (hv_ov h [(a, oG a (nI (grun c (hv_cp l1 L0 c, hv_cp (fun j => 2 ^ pc_ (l1 j)) Z0 c, 0, les, oth, 0) i).2.2.1) (nI (grun c (hv_cp l1 L0 c, hv_cp (fun j => 2 ^ pc_ (l1 j)) Z0 c, 0, les, oth, 0) i).2.2.2.2.2)), (a + 1, eN 20 ((grun c (hv_cp l1 L0 c, hv_cp (fun j => 2 ^ pc_ (l1 j)) Z0 c, 0, les, oth, 0) i).1)), (a + 2, eN 20 ((grun c (hv_cp l1 L0 c, hv_cp (fun j => 2 ^ pc_ (l1 j)) Z0 c, 0, les, oth, 0) i).2.1)), (a + 3, eN 10 ((grun c (hv_cp l1 L0 c, hv_cp (fun j => 2 ^ pc_ (l1 j)) Z0 c, 0, les, oth, 0) i).2.2.2.1)), (a + 4, eN 10 ((grun c (hv_cp l1 L0 c, hv_cp (fun j => 2 ^ pc_ (l1 j)) Z0 c, 0, les, oth, 0) i).2.2.2.2.1)), (b, eN 10 l1)]) nx 33 [some (.ref a), some (.ref b), some (.int (nI c)), some (.int (nI i)), none, none] [] := by
    intro k
    induction k using Nat.strongRecOn with
    | ind k ih =>
      intro i hk hi
      refine V_iload_n d_G_joinAll_33 rfl ?_
      refine V_iload_n d_G_joinAll_34 rfl ?_
      refine V_iconst (nI 1) d_G_joinAll_35 rfl ?_
      refine V_isubN d_G_joinAll_36 (by omega) ?_
      refine V_icmp_geN 139 d_G_joinAll_37 (by decide) (by omega) (by omega) (fun c2 => ?_) (fun c2 => ?_)
      · exact V_return d_G_joinAll_139 rfl ⟨rfl, by rw [show i = c - 1 by omega], rfl⟩
      · have G := gok_r (gok_0 (L0 := L0) (Z0 := Z0) (les := les) (oth := oth) hl1) i (by omega)
        obtain ⟨p, q, hc, hpq, hq, gp, gq⟩ := gok_ch G (by omega)
        have Lp := (G.2.2 p (by omega)).1
        have Lq := (G.2.2 q (by omega)).1
        have hgl : (grun c (hv_cp l1 L0 c, hv_cp (fun j => 2 ^ pc_ (l1 j)) Z0 c, 0, les, oth, 0) i).2.2.1 < 2 ^ 31 := Nat.lt_of_lt_of_le G.2.1 (Nat.pow_le_pow_right (by decide) (by omega))
        have ES : grun c (hv_cp l1 L0 c, hv_cp (fun j => 2 ^ pc_ (l1 j)) Z0 c, 0, les, oth, 0) (i + 1) = gtu c (grun c (hv_cp l1 L0 c, hv_cp (fun j => 2 ^ pc_ (l1 j)) Z0 c, 0, les, oth, 0) i) i := rfl
        unfold gtu at ES
        rw [hc] at ES
        generalize grun c (hv_cp l1 L0 c, hv_cp (fun j => 2 ^ pc_ (l1 j)) Z0 c, 0, les, oth, 0) i = s at G hc gp gq Lp Lq hgl ES ⊢
        refine V_aload_n d_G_joinAll_40 rfl ?_
        refine V_iload_n d_G_joinAll_41 rfl ?_
        refine V_iload_n d_G_joinAll_42 rfl ?_
        refine V_iload_n d_G_joinAll_43 rfl ?_
        refine V_iaddN d_G_joinAll_44 ?_
        refine V_callV0 d_G_joinAll_45 ml_G_35 mB_G_choose mi_G_choose mv_G_choose rfl og_0 (c_G_choose l D _ _ og_0 (og_1 (by omega)) (og_2 (by omega) (by omega)) (og_3 (by omega) (by omega) (by omega)) (og_4 (by omega) (by omega) (by omega) (by omega)) hgl (by omega) (by omega) (fun i hi => (G.2.2 i hi).1) (fun i hi => (G.2.2 i hi).2)) rfl rfl rfl rfl rfl rfl rfl ?_
        rintro _ _ ⟨rfl, rfl⟩
        rw [ox_5, ou_4 (by omega) (by omega) (by omega) (by omega), ou_3 (by omega) (by omega) (by omega), ou_2 (by omega) (by omega), ou_1 (by omega), ou_0, hc]
        refine V_aload_n d_G_joinAll_48 rfl ?_
        refine V_getfield d_G_joinAll_49 fl_G_18 (og_0) rfl ?_
        refine V_iload_n d_G_joinAll_52 rfl ?_
        refine V_iaload d_G_joinAll_53 (og_3 (by omega) (by omega) (by omega)) ⟨rfl, by omega, by decide⟩ ?_
        refine V_eqI (y := nI p) (by simp [lesS, va_up]) ?_
        refine V_istore_4 d_G_joinAll_54 rfl ?_
        refine V_aload_n d_G_joinAll_56 rfl ?_
        refine V_getfield d_G_joinAll_57 fl_G_21 (og_0) rfl ?_
        refine V_iload_n d_G_joinAll_60 rfl ?_
        refine V_iaload d_G_joinAll_61 (og_4 (by omega) (by omega) (by omega) (by omega)) ⟨rfl, by omega, by decide⟩ ?_
        refine V_eqI (y := nI q) (by simp [othS, va_up]) ?_
        refine V_istore_5 d_G_joinAll_62 rfl ?_
        refine V_aload_n d_G_joinAll_64 rfl ?_
        refine V_dup d_G_joinAll_65 rfl ?_
        refine V_getfield d_G_joinAll_66 fl_G_28 (og_0) rfl ?_
        refine V_iconst (nI 1) d_G_joinAll_69 rfl ?_
        refine V_aload_n d_G_joinAll_70 rfl ?_
        refine V_getfield d_G_joinAll_71 fl_G_9 (og_0) rfl ?_
        refine V_iload d_G_joinAll_74 rfl ?_
        refine V_iaload d_G_joinAll_76 (og_1 (by omega)) ⟨rfl, by omega, by decide⟩ ?_
        refine V_aload_n d_G_joinAll_77 rfl ?_
        refine V_getfield d_G_joinAll_78 fl_G_9 (og_0) rfl ?_
        refine V_iload d_G_joinAll_81 rfl ?_
        refine V_iaload d_G_joinAll_83 (og_1 (by omega)) ⟨rfl, by omega, by decide⟩ ?_
        refine V_iorN d_G_joinAll_84 ?_
        refine V_callS1 d_G_joinAll_85 ml_G_38 mB_JI_bitCount ms_JI_bitCount (c_bitCount l D _ _ (Nat.lt_of_lt_of_le (Nat.or_lt_two_pow Lp Lq) (by decide))) rfl rfl rfl rfl rfl rfl rfl ?_
        rintro _ _ ⟨rfl, rfl⟩
        refine V_ishlN d_G_joinAll_88 (by have := pc_le (Nat.or_lt_two_pow Lp Lq); omega) ?_
        rw [Nat.one_mul]
        refine V_iaddN d_G_joinAll_89 ?_
        refine V_put (e' := oG a (nI s.2.2.1) (nI (s.2.2.2.2.2 + 2 ^ pc_ (s.1 p ||| s.1 q)))) d_G_joinAll_90 fp_G_28 (og_0) rfl rfl rfl rfl (ou_0) ?_
        refine V_aload_n d_G_joinAll_93 rfl ?_
        refine V_iload_n d_G_joinAll_94 rfl ?_
        refine V_iload_n d_G_joinAll_95 rfl ?_
        refine V_iaddN d_G_joinAll_96 ?_
        refine V_aload_n d_G_joinAll_97 rfl ?_
        refine V_getfield d_G_joinAll_98 fl_G_9 (og_0) rfl ?_
        refine V_iload d_G_joinAll_101 rfl ?_
        refine V_iaload d_G_joinAll_103 (og_1 (by omega)) ⟨rfl, by omega, by decide⟩ ?_
        refine V_aload_n d_G_joinAll_104 rfl ?_
        refine V_getfield d_G_joinAll_105 fl_G_9 (og_0) rfl ?_
        refine V_iload d_G_joinAll_108 rfl ?_
        refine V_iaload d_G_joinAll_110 (og_1 (by omega)) ⟨rfl, by omega, by decide⟩ ?_
        refine V_ixorN d_G_joinAll_111 ?_
        refine V_callV0 d_G_joinAll_112 ml_G_31 mB_G_addThing mi_G_addThing mv_G_addThing rfl og_0 (c_G_addThing l D _ _ og_0 (og_1 (by omega)) (og_2 (by omega) (by omega)) (by omega) (Nat.xor_lt_two_pow Lp Lq)) rfl rfl rfl rfl rfl rfl rfl ?_
        rintro _ _ ⟨rfl, rfl⟩
        rw [ox_3, ou_2 (by omega) (by omega), ou_1 (by omega), ou_0]
        refine V_aload_n d_G_joinAll_115 rfl ?_
        refine V_dup d_G_joinAll_116 rfl ?_
        refine V_getfield d_G_joinAll_117 fl_G_24 (og_0) rfl ?_
        refine V_iconst (nI 1) d_G_joinAll_120 rfl ?_
        refine V_iload d_G_joinAll_121 rfl ?_
        refine V_ishlN d_G_joinAll_123 (by omega) ?_
        refine V_iconst (nI 1) d_G_joinAll_124 rfl ?_
        refine V_iload d_G_joinAll_125 rfl ?_
        refine V_ishlN d_G_joinAll_127 (by omega) ?_
        rw [Nat.one_mul, Nat.one_mul]
        refine V_iorN d_G_joinAll_128 ?_
        refine V_iorN d_G_joinAll_129 ?_
        refine V_put (e' := oG a (nI (s.2.2.1 ||| (2 ^ p ||| 2 ^ q))) (nI (s.2.2.2.2.2 + 2 ^ pc_ (s.1 p ||| s.1 q)))) d_G_joinAll_130 fp_G_24 (og_0) rfl rfl rfl rfl (ou_0) ?_
        refine V_iincN_3 1 d_G_joinAll_133 rfl rfl ?_
        refine V_goto 33 d_G_joinAll_136 (by decide) ?_
        have J := ih (c - 1 - (i + 1)) (by omega) (i + 1) rfl (by omega)
        rw [ES] at J
        refine V_drop_4 ?_
        refine V_drop_5 ?_
        exact J
  have lp1 : ∀ (k i : Nat), k = c - i → i ≤ c → hv_V l D M_G_joinAll (fun _ _ => True) (hv_rm 2 48 0 0) (hv_ans none (fun h' n' => h' = hv_ov h [(a, oG a (nI (grun c (hv_cp l1 L0 c, hv_cp (fun j => 2 ^ pc_ (l1 j)) Z0 c, 0, les, oth, 0) (c - 1)).2.2.1) (nI (grun c (hv_cp l1 L0 c, hv_cp (fun j => 2 ^ pc_ (l1 j)) Z0 c, 0, les, oth, 0) (c - 1)).2.2.2.2.2)), (a + 1, eN 20 ((grun c (hv_cp l1 L0 c, hv_cp (fun j => 2 ^ pc_ (l1 j)) Z0 c, 0, les, oth, 0) (c - 1)).1)), (a + 2, eN 20 ((grun c (hv_cp l1 L0 c, hv_cp (fun j => 2 ^ pc_ (l1 j)) Z0 c, 0, les, oth, 0) (c - 1)).2.1)), (a + 3, eN 10 ((grun c (hv_cp l1 L0 c, hv_cp (fun j => 2 ^ pc_ (l1 j)) Z0 c, 0, les, oth, 0) (c - 1)).2.2.2.1)), (a + 4, eN 10 ((grun c (hv_cp l1 L0 c, hv_cp (fun j => 2 ^ pc_ (l1 j)) Z0 c, 0, les, oth, 0) (c - 1)).2.2.2.2.1)), (b, eN 10 l1)] ∧ n' = nx)) 0 0 (hv_ov h [(a, oG a (nI 0) (nI 0)), (a + 1, eN 20 (hv_cp l1 L0 i)), (a + 2, eN 20 (hv_cp (fun j => 2 ^ pc_ (l1 j)) Z0 i)), (a + 3, eN 10 (les)), (a + 4, eN 10 (oth)), (b, eN 10 l1)]) nx 12 [some (.ref a), some (.ref b), some (.int (nI c)), some (.int (nI i)), none, none] [] := by
    intro k
    induction k using Nat.strongRecOn with
    | ind k ih =>
      intro i hk hi
      refine V_iload_n d_G_joinAll_12 rfl ?_
      refine V_iload_n d_G_joinAll_13 rfl ?_
      refine V_icmp_geN 31 d_G_joinAll_14 (by decide) (by omega) (by omega) (fun c1 => ?_) (fun c1 => ?_)
      · have ec : i = c := by omega
        subst ec
        refine V_iconst (nI 0) d_G_joinAll_31 rfl ?_
        refine V_istore_3 d_G_joinAll_32 rfl ?_
        exact lp _ 0 rfl (Nat.zero_le _)
      · refine V_aload_n d_G_joinAll_17 rfl ?_
        refine V_iload_n d_G_joinAll_18 rfl ?_
        refine V_aload_n d_G_joinAll_19 rfl ?_
        refine V_iload_n d_G_joinAll_20 rfl ?_
        refine V_iaload d_G_joinAll_21 (og_5 (by omega) (by omega) (by omega) (by omega) (by omega)) ⟨rfl, by omega, by decide⟩ ?_
        refine V_callV0 d_G_joinAll_22 ml_G_31 mB_G_addThing mi_G_addThing mv_G_addThing rfl og_0 (c_G_addThing l D _ _ og_0 (og_1 (by omega)) (og_2 (by omega) (by omega)) (by omega) (hl1 i (by omega))) rfl rfl rfl rfl rfl rfl rfl ?_
        rintro _ _ ⟨rfl, rfl⟩
        rw [ox_3, ou_2 (by omega) (by omega), ou_1 (by omega), ou_0, hv_cp_s, hv_cp_s (f := fun j => 2 ^ pc_ (l1 j))]
        refine V_iincN_3 1 d_G_joinAll_25 rfl rfl ?_
        refine V_goto 12 d_G_joinAll_28 (by decide) ?_
        exact ih (c - (i + 1)) (by omega) (i + 1) rfl (by omega)
  refine hv_N.of' [some (.ref a), some (.ref b), some (.int (nI c)), none, none, none] (by decide +kernel) rfl rfl rfl ?_
  refine V_eqH (ob_6 ha hL hZ hles hoth hb) ?_
  refine V_aload_n d_G_joinAll_0 rfl ?_
  refine V_iconst (nI 0) d_G_joinAll_1 rfl ?_
  refine V_put (e' := oG a (nI 0) ac0) d_G_joinAll_2 fp_G_24 (og_0) rfl rfl rfl rfl (ou_0) ?_
  refine V_aload_n d_G_joinAll_5 rfl ?_
  refine V_iconst (nI 0) d_G_joinAll_6 rfl ?_
  refine V_put (e' := oG a (nI 0) (nI 0)) d_G_joinAll_7 fp_G_28 (og_0) rfl rfl rfl rfl (ou_0) ?_
  refine V_iconst (nI 0) d_G_joinAll_10 rfl ?_
  refine V_istore_3 d_G_joinAll_11 rfl ?_
  have J := lp1 _ 0 rfl (Nat.zero_le _)
  rw [hv_cp_0, hv_cp_0] at J
  exact J
end
section
-- PARTS of a set, in order
theorem lowest_bit {P : Nat → Bool} : ∀ {n : Nat}, (∃ i, i < n ∧ P i = true) → ∃ p, p < n ∧ P p = true ∧ ∀ j, j < p → P j = false
  | 0, ⟨i, h, _⟩ => by omega
  | n + 1, ⟨i, h, hp⟩ => by
    by_cases q : ∃ i, i < n ∧ P i = true
    · obtain ⟨p, h1, h2, h3⟩ := lowest_bit q
      exact ⟨p, by omega, h2, h3⟩
    · have e : i = n := by
        rcases Nat.lt_or_ge i n with z | z
        · exact absurd ⟨i, z, hp⟩ q
        · omega
      subst e
      refine ⟨i, by omega, hp, fun j hj => ?_⟩
      cases hP : P j with
      | false => rfl
      | true => exact absurd ⟨j, hj, hP⟩ q
theorem sub_bits {m r : Nat} (h : m &&& r = m) (i : Nat) (hi : m.testBit i = true) : r.testBit i = true := by
  rw [← h, Nat.testBit_and] at hi
  simp at hi
  exact hi.2
theorem sub_of_bits {m r : Nat} (h : ∀ i, m.testBit i = true → r.testBit i = true) : m &&& r = m := by
  apply Nat.eq_of_testBit_eq
  intro i
  rw [Nat.testBit_and]
  cases hm : m.testBit i with
  | false => rfl
  | true => rw [h i hm]; rfl
theorem or_add : ∀ (n m r : Nat), m < 2 ^ n → m &&& r = 0 → m ||| r = m + r
  | 0, m, r, h, _ => by
    have : m = 0 := by simp at h; omega
    subst this
    simp
  | n + 1, m, r, h, h0 => by
    have h1 : m / 2 &&& r / 2 = 0 := by rw [← Nat.and_div_two, h0]
    have ih := or_add n (m / 2) (r / 2) (by rw [Nat.pow_succ] at h; omega) h1
    have e1 : (m ||| r) / 2 = m / 2 + r / 2 := by rw [Nat.or_div_two, ih]
    have b0 : (m &&& r).testBit 0 = false := by rw [h0]; simp
    have b1 : (m ||| r).testBit 0 = (m.testBit 0 || r.testBit 0) := Nat.testBit_or _ _ _
    rw [Nat.testBit_and] at b0
    simp only [Nat.testBit_zero] at b0 b1
    have q1 := Nat.mod_two_eq_zero_or_one m
    have q2 := Nat.mod_two_eq_zero_or_one r
    have q3 := Nat.mod_two_eq_zero_or_one (m ||| r)
    rcases q1 with q1 | q1 <;> rcases q2 with q2 | q2 <;> rcases q3 with q3 | q3 <;> simp [q1, q2, q3] at b0 b1 <;> omega
theorem sub_add {m r : Nat} (h : m &&& r = m) : m + (r ^^^ m) = r := by
  have h1 : m &&& (r ^^^ m) = 0 := by
    apply Nat.eq_of_testBit_eq
    intro i
    have := sub_bits h i
    simp only [Nat.testBit_and, Nat.testBit_xor, Nat.zero_testBit]
    cases hm : m.testBit i <;> simp_all
  have h2 : m ||| (r ^^^ m) = r := by
    apply Nat.eq_of_testBit_eq
    intro i
    have := sub_bits h i
    simp only [Nat.testBit_or, Nat.testBit_xor]
    cases hm : m.testBit i <;> simp_all
  have h3 := or_add m m (r ^^^ m) Nat.lt_two_pow_self h1
  omega
/-- the next greater part of r -/
theorem nxt_part {m r : Nat} (hr : r < 2 ^ 31) (h : m &&& r = m) (hl : m < r) : ∃ m', (nI m - nI r) &&& nI r = nI m' ∧ m < m' ∧ m' ≤ r ∧ m' &&& r = m' ∧ ∀ s, m < s → s < m' → ¬ s &&& r = s := by
  have hx : (r ^^^ m) ≠ 0 := by
    intro q
    have := sub_add h
    omega
  have hxl : r ^^^ m < 2 ^ 31 := Nat.xor_lt_two_pow hr (by omega)
  obtain ⟨i0, hi0⟩ : ∃ i, (r ^^^ m).testBit i = true := by
    obtain ⟨i, hi⟩ := Nat.exists_testBit_of_ne_zero hx
    exact ⟨i, hi⟩
  have hi1 : i0 < 31 := by
    rcases Nat.lt_or_ge i0 31 with q | q
    · exact q
    · rw [Nat.testBit_lt_two_pow (Nat.lt_of_lt_of_le hxl (Nat.pow_le_pow_right (by decide) q))] at hi0
      cases hi0
  obtain ⟨p, hp31, hp, hpl⟩ := lowest_bit (P := fun i => (r ^^^ m).testBit i) ⟨i0, hi1, hi0⟩
  have hp : (r ^^^ m).testBit p = true := hp
  have rm : r.testBit p = true ∧ m.testBit p = false := by
    have := sub_bits h p
    rw [Nat.testBit_xor] at hp
    cases hm : m.testBit p <;> simp_all
  have low : ∀ j, j < p → r.testBit j = m.testBit j := by
    intro j hj
    have := hpl j hj
    rw [Nat.testBit_xor] at this
    cases h1 : r.testBit j <;> cases h2 : m.testBit j <;> simp_all
  have ev : (m / 2 ^ p) % 2 = 0 := by
    have := rm.2
    rw [Nat.testBit_eq_decide_div_mod_eq] at this
    have := of_decide_eq_false this
    omega
  have bits : ∀ i, (2 ^ p * (m / 2 ^ p + 1)).testBit i = if i < p then false else if i = p then true else m.testBit i := by
    intro i
    have e0 := Nat.testBit_two_pow_mul_add (m / 2 ^ p + 1) (Nat.two_pow_pos p) i
    rw [Nat.add_zero] at e0
    rw [e0]
    by_cases c1 : i < p
    · simp [c1]
    · rw [if_neg c1, if_neg c1]
      by_cases c2 : i = p
      · subst c2
        rw [Nat.sub_self, if_pos rfl, Nat.testBit_zero]
        simp; omega
      · rw [if_neg c2]
        obtain ⟨k, hk⟩ : ∃ k, i - p = k + 1 := ⟨i - p - 1, by omega⟩
        rw [hk, Nat.testBit_succ, show (m / 2 ^ p + 1) / 2 = m / 2 ^ p / 2 by omega, ← Nat.testBit_succ]
        show (m / 2 ^ p).testBit (k + 1) = _
        rw [← hk, Nat.testBit_div_two_pow, show i - p + p = i by omega]
  have subm : (2 ^ p * (m / 2 ^ p + 1)) &&& r = 2 ^ p * (m / 2 ^ p + 1) := by
    refine sub_of_bits (fun i hi => ?_)
    rw [bits i] at hi
    split at hi
    · cases hi
    · split at hi
      · rename_i e; rw [e]; exact rm.1
      · exact sub_bits h i hi
  have lowm : m % 2 ^ p = r % 2 ^ p := by
    apply Nat.eq_of_testBit_eq
    intro i
    rw [Nat.testBit_mod_two_pow, Nat.testBit_mod_two_pow]
    by_cases c : i < p
    · rw [low i c]
    · simp [c]
  have pp : 0 < 2 ^ p := Nat.two_pow_pos p
  have dm := Nat.div_add_mod m (2 ^ p)
  have lt : m < 2 ^ p * (m / 2 ^ p + 1) := by
    have := Nat.mod_lt m pp
    rw [Nat.mul_add]
    omega
  refine ⟨2 ^ p * (m / 2 ^ p + 1), ?_, lt, ?_, subm, ?_⟩
  · have e1 : nI m - nI r = -nI (r ^^^ m) := by
      have := sub_add h
      conv => lhs; rw [← this]
      rw [← nI_add]
      have e2 : ∀ x y : Int32, x - (x + y) = -y := fun x y => by
        grind
      exact e2 _ _
    rw [e1]
    apply Int32.toBitVec_inj.1
    show -(BitVec.ofNat 32 (r ^^^ m)) &&& BitVec.ofNat 32 r = BitVec.ofNat 32 (2 ^ p * (m / 2 ^ p + 1))
    apply BitVec.eq_of_getLsbD_eq
    intro i hi
    rw [BitVec.getLsbD_and, BitVec.getLsbD_neg]
    simp only [BitVec.getLsbD_ofNat, hi, decide_true, Bool.true_and, bits]
    by_cases c1 : i < p
    · have no : ¬ ∃ j, j < i ∧ (decide (j < 32) && (r ^^^ m).testBit j) = true := by
        rintro ⟨j, hj, q⟩
        rw [hpl j (by omega)] at q
        simp at q
      have xi : (r ^^^ m).testBit i = false := hpl i c1
      rw [if_pos c1, xi, decide_eq_false no]
      rfl
    · rw [if_neg c1]
      by_cases c2 : i = p
      · subst c2
        have no : ¬ ∃ j, j < i ∧ (decide (j < 32) && (r ^^^ m).testBit j) = true := by
          rintro ⟨j, hj, q⟩
          rw [hpl j (by omega)] at q
          simp at q
        rw [if_pos rfl, hp, decide_eq_false no, rm.1]
        rfl
      · have yes : ∃ j, j < i ∧ (decide (j < 32) && (r ^^^ m).testBit j) = true := ⟨p, by omega, by rw [hp]; simp; omega⟩
        rw [if_neg c2, decide_eq_true yes, Nat.testBit_xor]
        have := sub_bits h i
        cases h1 : m.testBit i <;> cases h2 : r.testBit i <;> simp_all
  · have := sub_add subm
    omega
  · intro s h1 h2 h3
    have ls : s % 2 ^ p ≤ m % 2 ^ p := by
      have e : (s % 2 ^ p) &&& (m % 2 ^ p) = s % 2 ^ p := by
        refine sub_of_bits (fun i hi => ?_)
        rw [Nat.testBit_mod_two_pow] at hi ⊢
        simp at hi
        have := sub_bits h3 i hi.2
        rw [low i hi.1] at this
        simp [hi.1, this]
      have := sub_add e
      omega
    have ds := Nat.div_add_mod s (2 ^ p)
    have : s / 2 ^ p ≤ m / 2 ^ p := by
      have : s < (m / 2 ^ p + 1) * 2 ^ p := by rw [Nat.mul_comm]; exact h2
      have := (Nat.div_lt_iff_lt_mul pp).mpr this
      omega
    have := Nat.mul_le_mul_left (2 ^ p) this
    omega
/-- the parts s of r, one after the other: a running least cost, and the first part that has it -/
def ptS (lg co : Nat → Nat) (ls r : Nat) (st : Nat × Nat) (s : Nat) : Nat × Nat := if co (ls ||| s) + co (r ^^^ s) + 2 ^ pc_ (lg (ls ||| s) ||| lg (r ^^^ s)) < st.1 then (co (ls ||| s) + co (r ^^^ s) + 2 ^ pc_ (lg (ls ||| s) ||| lg (r ^^^ s)), ls ||| s) else st
def ptF (lg co : Nat → Nat) (ls r : Nat) (st : Nat × Nat) : Nat → Nat × Nat
  | 0 => st
  | x + 1 => if x &&& r = x then ptS lg co ls r (ptF lg co ls r st x) x else ptF lg co ls r st x
theorem ptF_gap {lg co : Nat → Nat} {ls r : Nat} {st : Nat × Nat} {x : Nat} : ∀ k, (∀ s, x ≤ s → s < x + k → ¬ s &&& r = s) → ptF lg co ls r st (x + k) = ptF lg co ls r st x
  | 0, _ => rfl
  | k + 1, h => by
    have ih := ptF_gap (lg := lg) (co := co) (ls := ls) (st := st) (x := x) k (fun s a b => h s a (by omega))
    have e : ptF lg co ls r st (x + (k + 1)) = if x + k &&& r = x + k then ptS lg co ls r (ptF lg co ls r st (x + k)) (x + k) else ptF lg co ls r st (x + k) := rfl
    rw [e, if_neg (h (x + k) (by omega) (by omega)), ih]
end
section
-- ORDER: isTooDear, partInTwo
set_option maxRecDepth 100000 in
set_option maxHeartbeats 4000000 in
theorem c_O_isTooDear (l : Launch) (D : hv_D) (h : hv_P) (nx : Nat) {a s bd : Nat} {ac ml : Int32} {lg : Nat → Nat} (ha : h a = some (oO a ac ml)) (hl : h (a + 1) = some (eN 1024 lg)) (hs : s < 1024) (hlg : lg s < 2 ^ 20) (hbd : bd < 2 ^ 31) : hv_N l D M_O_isTooDear (hv_rm 1 20 0 0) [.ref a, .int (nI s), .int (nI bd)] h nx (hv_ans (some (.int (bZ (decide (bd < 2 * 2 ^ pc_ (lg s)))))) (hv_same h nx)) := by
  refine hv_N.of' [some (.ref a), some (.int (nI s)), some (.int (nI bd))] (by decide +kernel) rfl rfl rfl ?_
  refine V_iconst (nI 2) d_O_isTooDear_0 rfl ?_
  refine V_aload_n d_O_isTooDear_1 rfl ?_
  refine V_getfield d_O_isTooDear_2 fl_O_9 ha rfl ?_
  refine V_iload_n d_O_isTooDear_5 rfl ?_
  refine V_iaload d_O_isTooDear_6 hl ⟨rfl, hs, by decide⟩ ?_
  refine V_callS1 d_O_isTooDear_7 ml_O_53 mB_JI_bitCount ms_JI_bitCount (c_bitCount l D _ _ (Nat.lt_of_lt_of_le hlg (by decide))) rfl rfl rfl rfl rfl rfl rfl ?_
  rintro _ _ ⟨rfl, rfl⟩
  refine V_ishlN d_O_isTooDear_10 (by have := pc_le hlg; omega) ?_
  refine V_iload_n d_O_isTooDear_11 rfl ?_
  refine V_icmp_leN 19 d_O_isTooDear_12 (by decide) (by have := two20 hlg; omega) (by omega) (fun q => ?_) (fun q => ?_)
  · refine V_iconst (0) d_O_isTooDear_19 rfl ?_
    exact V_zreturn d_O_isTooDear_20 rfl rfl ⟨by first | (simp [bZ, q]; done) | (simp [bZ, Nat.not_lt.mpr q]; done), rfl, rfl⟩
  · refine V_iconst (1) d_O_isTooDear_15 rfl ?_
    refine V_goto 20 d_O_isTooDear_16 (by decide) ?_
    exact V_zreturn d_O_isTooDear_20 rfl rfl ⟨by first | (simp [bZ, q]; done) | (simp [bZ, Nat.not_lt.mpr q]; done), rfl, rfl⟩

set_option maxRecDepth 100000 in
set_option maxHeartbeats 4000000 in
theorem c_O_partInTwo (l : Launch) (D : hv_D) (h : hv_P) (nx : Nat) {a ls r bd : Nat} {ac ml : Int32} {lg co fi : Nat → Nat} (ha : h a = some (oO a ac ml)) (hl : h (a + 1) = some (eN 1024 lg)) (hc : h (a + 2) = some (eN 1024 co)) (hf : h (a + 3) = some (eN 1024 fi)) (hdis : (ls ||| r) ^^^ r = ls) (hls : ls < 1024) (hr : r < 1024) (hbd : bd < 2 ^ 26) (hco : ∀ s, s < 1024 → co s ≤ 2 ^ 26) (hlg : ∀ s, s < 1024 → lg s < 2 ^ 20) : hv_N l D M_O_partInTwo (hv_rm 1 20 0 0) [.ref a, .int (nI (ls ||| r)), .int (nI r), .int (nI bd)] h nx (hv_ans none (fun h' n' => h' = hv_ov h [(a, oO a ac ml), (a + 1, eN 1024 lg), (a + 2, eN 1024 (va_up co (ls ||| r) (ptF lg co ls r (bd + 1, ls) r).1)), (a + 3, eN 1024 (va_up fi (ls ||| r) (ptF lg co ls r (bd + 1, ls) r).2))] ∧ n' = nx)) := by
  have hlow : ∀ x, (ptF lg co ls r (bd + 1, ls) x).1 ≤ bd + 1 := by
    intro x
    induction x with
    | zero => exact Nat.le_refl _
    | succ x ihx =>
      show (if x &&& r = x then _ else _ : Nat × Nat).1 ≤ _
      split
      · unfold ptS; split
        · show _ ≤ bd + 1; omega
        · exact ihx
      · exact ihx
  have lp : ∀ (k s : Nat), k = r - s → s ≤ r → s &&& r = s → hv_V l D M_O_partInTwo (fun _ _ => True) (hv_rm 1 20 0 0) (hv_ans none (fun h' n' => h' = hv_ov h [(a, oO a ac ml), (a + 1, eN 1024 lg), (a + 2, eN 1024 (va_up co (ls ||| r) (ptF lg co ls r (bd + 1, ls) r).1)), (a + 3, eN 1024 (va_up fi (ls ||| r) (ptF lg co ls r (bd + 1, ls) r).2))] ∧ n' = nx)) 0 0 (hv_ov h [(a, oO a ac ml), (a + 1, eN 1024 lg), (a + 2, eN 1024 co), (a + 3, eN 1024 fi)]) nx 17 [some (.ref a), some (.int (nI (ls ||| r))), some (.int (nI r)), some (.int (nI bd)), some (.int (nI ls)), some (.int (nI (ptF lg co ls r (bd + 1, ls) s).1)), some (.int (nI (ptF lg co ls r (bd + 1, ls) s).2)), some (.int (nI s)), none, none, none] [] := by
    intro k
    induction k using Nat.strongRecOn with
    | ind k ih =>
      intro s hk hi hs
      refine V_iload d_O_partInTwo_17 rfl ?_
      refine V_iload_n d_O_partInTwo_19 rfl ?_
      refine V_icmp_geN 111 d_O_partInTwo_20 (by decide) (by omega) (by omega) (fun cs => ?_) (fun cs => ?_)
      · have es : s = r := by omega
        subst es
        refine V_aload_n d_O_partInTwo_111 rfl ?_
        refine V_getfield d_O_partInTwo_112 fl_O_15 (og_0) rfl ?_
        refine V_iload_n d_O_partInTwo_115 rfl ?_
        refine V_iload d_O_partInTwo_116 rfl ?_
        refine V_istN d_O_partInTwo_118 (og_2 (by omega) (by omega)) ⟨rfl, Nat.or_lt_two_pow (n := 10) hls (by omega), by decide⟩ (ou_2 (by omega) (by omega)) ?_
        refine V_aload_n d_O_partInTwo_119 rfl ?_
        refine V_getfield d_O_partInTwo_120 fl_O_18 (og_0) rfl ?_
        refine V_iload_n d_O_partInTwo_123 rfl ?_
        refine V_iload d_O_partInTwo_124 rfl ?_
        refine V_istN d_O_partInTwo_126 (og_3 (by omega) (by omega) (by omega)) ⟨rfl, Nat.or_lt_two_pow (n := 10) hls (by omega), by decide⟩ (ou_3 (by omega) (by omega) (by omega)) ?_
        exact V_return d_O_partInTwo_127 rfl ⟨rfl, rfl, rfl⟩
      · have f1 : ls ||| s < 1024 := Nat.or_lt_two_pow (n := 10) hls (by omega)
        have f2 : r ^^^ s < 1024 := Nat.xor_lt_two_pow (n := 10) hr (by omega)
        have c1 := hco _ f1
        have c2 := hco _ f2
        have l1 := hlg _ f1
        have l2 := hlg _ f2
        have lo := Nat.or_lt_two_pow l1 l2
        have t20 := two20 lo
        have low := hlow s
        refine V_iload d_O_partInTwo_23 rfl ?_
        refine V_iload d_O_partInTwo_25 rfl ?_
        refine V_iorN d_O_partInTwo_27 ?_
        refine V_istore_8 d_O_partInTwo_28 rfl ?_
        refine V_iload_n d_O_partInTwo_30 rfl ?_
        refine V_iload d_O_partInTwo_31 rfl ?_
        refine V_ixorN d_O_partInTwo_33 ?_
        refine V_istore_9 d_O_partInTwo_34 rfl ?_
        refine V_aload_n d_O_partInTwo_36 rfl ?_
        refine V_getfield d_O_partInTwo_37 fl_O_15 (og_0) rfl ?_
        refine V_iload d_O_partInTwo_40 rfl ?_
        refine V_iaload d_O_partInTwo_42 (og_2 (by omega) (by omega)) ⟨rfl, f1, by decide⟩ ?_
        refine V_aload_n d_O_partInTwo_43 rfl ?_
        refine V_getfield d_O_partInTwo_44 fl_O_15 (og_0) rfl ?_
        refine V_iload d_O_partInTwo_47 rfl ?_
        refine V_iaload d_O_partInTwo_49 (og_2 (by omega) (by omega)) ⟨rfl, f2, by decide⟩ ?_
        refine V_iaddN d_O_partInTwo_50 ?_
        refine V_istore_10 d_O_partInTwo_51 rfl ?_
        refine V_iload d_O_partInTwo_53 rfl ?_
        refine V_iload d_O_partInTwo_55 rfl ?_
        refine V_icmp_geN 100 d_O_partInTwo_57 (by decide) (by omega) (by omega) (fun d1 => ?_) (fun d1 => ?_)
        · have P1 : ptS lg co ls r (ptF lg co ls r (bd + 1, ls) s) s = ptF lg co ls r (bd + 1, ls) s := by unfold ptS; rw [if_neg (by omega)]
          refine V_iload d_O_partInTwo_100 rfl ?_
          refine V_iload_n d_O_partInTwo_102 rfl ?_
          refine V_isub d_O_partInTwo_103 ?_
          refine V_iload_n d_O_partInTwo_104 rfl ?_
          refine V_iand d_O_partInTwo_105 ?_
          obtain ⟨m', em, m1, m2, m3, m4⟩ := nxt_part (by omega) hs cs
          refine V_eqI em ?_
          refine V_istore_7 d_O_partInTwo_106 rfl ?_
          refine V_goto 17 d_O_partInTwo_108 (by decide) ?_
          have gap : ptF lg co ls r (bd + 1, ls) m' = ptF lg co ls r (bd + 1, ls) (s + 1) := by
            have := ptF_gap (lg := lg) (co := co) (ls := ls) (r := r) (st := (bd + 1, ls)) (x := s + 1) (m' - (s + 1)) (fun z z1 z2 => m4 z (by omega) (by omega))
            rw [show s + 1 + (m' - (s + 1)) = m' by omega] at this
            exact this
          have J := ih (r - m') (by omega) m' rfl m2 m3
          rw [gap, show ptF lg co ls r (bd + 1, ls) (s + 1) = ptS lg co ls r (ptF lg co ls r (bd + 1, ls) s) s by show (if s &&& r = s then _ else _) = _; rw [if_pos hs]] at J
          rw [P1] at J
          refine V_drop_8 ?_
          refine V_drop_9 ?_
          refine V_drop_10 ?_
          exact J
        · refine V_iload d_O_partInTwo_60 rfl ?_
          refine V_iconst (nI 1) d_O_partInTwo_62 rfl ?_
          refine V_aload_n d_O_partInTwo_63 rfl ?_
          refine V_getfield d_O_partInTwo_64 fl_O_9 (og_0) rfl ?_
          refine V_iload d_O_partInTwo_67 rfl ?_
          refine V_iaload d_O_partInTwo_69 (og_1 (by omega)) ⟨rfl, f1, by decide⟩ ?_
          refine V_aload_n d_O_partInTwo_70 rfl ?_
          refine V_getfield d_O_partInTwo_71 fl_O_9 (og_0) rfl ?_
          refine V_iload d_O_partInTwo_74 rfl ?_
          refine V_iaload d_O_partInTwo_76 (og_1 (by omega)) ⟨rfl, f2, by decide⟩ ?_
          refine V_iorN d_O_partInTwo_77 ?_
          refine V_callS1 d_O_partInTwo_78 ml_O_53 mB_JI_bitCount ms_JI_bitCount (c_bitCount l D _ _ (Nat.lt_of_lt_of_le lo (by decide))) rfl rfl rfl rfl rfl rfl rfl ?_
          rintro _ _ ⟨rfl, rfl⟩
          refine V_ishlN d_O_partInTwo_81 (by have := pc_le lo; omega) ?_
          rw [Nat.one_mul]
          refine V_iaddN d_O_partInTwo_82 ?_
          refine V_istore_10 d_O_partInTwo_83 rfl ?_
          refine V_iload d_O_partInTwo_85 rfl ?_
          refine V_iload d_O_partInTwo_87 rfl ?_
          refine V_icmp_geN 100 d_O_partInTwo_89 (by decide) (by omega) (by omega) (fun d2 => ?_) (fun d2 => ?_)
          · have P1 : ptS lg co ls r (ptF lg co ls r (bd + 1, ls) s) s = ptF lg co ls r (bd + 1, ls) s := by unfold ptS; rw [if_neg (by omega)]
            refine V_iload d_O_partInTwo_100 rfl ?_
            refine V_iload_n d_O_partInTwo_102 rfl ?_
            refine V_isub d_O_partInTwo_103 ?_
            refine V_iload_n d_O_partInTwo_104 rfl ?_
            refine V_iand d_O_partInTwo_105 ?_
            obtain ⟨m', em, m1, m2, m3, m4⟩ := nxt_part (by omega) hs cs
            refine V_eqI em ?_
            refine V_istore_7 d_O_partInTwo_106 rfl ?_
            refine V_goto 17 d_O_partInTwo_108 (by decide) ?_
            have gap : ptF lg co ls r (bd + 1, ls) m' = ptF lg co ls r (bd + 1, ls) (s + 1) := by
              have := ptF_gap (lg := lg) (co := co) (ls := ls) (r := r) (st := (bd + 1, ls)) (x := s + 1) (m' - (s + 1)) (fun z z1 z2 => m4 z (by omega) (by omega))
              rw [show s + 1 + (m' - (s + 1)) = m' by omega] at this
              exact this
            have J := ih (r - m') (by omega) m' rfl m2 m3
            rw [gap, show ptF lg co ls r (bd + 1, ls) (s + 1) = ptS lg co ls r (ptF lg co ls r (bd + 1, ls) s) s by show (if s &&& r = s then _ else _) = _; rw [if_pos hs]] at J
            rw [P1] at J
            refine V_drop_8 ?_
            refine V_drop_9 ?_
            refine V_drop_10 ?_
            exact J
          · have P1 : ptS lg co ls r (ptF lg co ls r (bd + 1, ls) s) s = (co (ls ||| s) + co (r ^^^ s) + 2 ^ pc_ (lg (ls ||| s) ||| lg (r ^^^ s)), ls ||| s) := by unfold ptS; rw [if_pos (by omega)]
            refine V_iload d_O_partInTwo_92 rfl ?_
            refine V_istore_5 d_O_partInTwo_94 rfl ?_
            refine V_iload d_O_partInTwo_96 rfl ?_
            refine V_istore_6 d_O_partInTwo_98 rfl ?_
            refine V_iload d_O_partInTwo_100 rfl ?_
            refine V_iload_n d_O_partInTwo_102 rfl ?_
            refine V_isub d_O_partInTwo_103 ?_
            refine V_iload_n d_O_partInTwo_104 rfl ?_
            refine V_iand d_O_partInTwo_105 ?_
            obtain ⟨m', em, m1, m2, m3, m4⟩ := nxt_part (by omega) hs cs
            refine V_eqI em ?_
            refine V_istore_7 d_O_partInTwo_106 rfl ?_
            refine V_goto 17 d_O_partInTwo_108 (by decide) ?_
            have gap : ptF lg co ls r (bd + 1, ls) m' = ptF lg co ls r (bd + 1, ls) (s + 1) := by
              have := ptF_gap (lg := lg) (co := co) (ls := ls) (r := r) (st := (bd + 1, ls)) (x := s + 1) (m' - (s + 1)) (fun z z1 z2 => m4 z (by omega) (by omega))
              rw [show s + 1 + (m' - (s + 1)) = m' by omega] at this
              exact this
            have J := ih (r - m') (by omega) m' rfl m2 m3
            rw [gap, show ptF lg co ls r (bd + 1, ls) (s + 1) = ptS lg co ls r (ptF lg co ls r (bd + 1, ls) s) s by show (if s &&& r = s then _ else _) = _; rw [if_pos hs]] at J
            rw [P1] at J
            refine V_drop_8 ?_
            refine V_drop_9 ?_
            refine V_drop_10 ?_
            exact J
  refine hv_N.of' [some (.ref a), some (.int (nI (ls ||| r))), some (.int (nI r)), some (.int (nI bd)), none, none, none, none, none, none, none] (by decide +kernel) rfl rfl rfl ?_
  refine V_eqH (ob_4 ha hl hc hf) ?_
  refine V_iload_n d_O_partInTwo_0 rfl ?_
  refine V_iload_n d_O_partInTwo_1 rfl ?_
  refine V_ixorN d_O_partInTwo_2 ?_
  refine V_eqI (y := nI ls) (by rw [hdis]) ?_
  refine V_istore_4 d_O_partInTwo_3 rfl ?_
  refine V_iload_n d_O_partInTwo_5 rfl ?_
  refine V_iconst (nI 1) d_O_partInTwo_6 rfl ?_
  refine V_iaddN d_O_partInTwo_7 ?_
  refine V_istore_5 d_O_partInTwo_8 rfl ?_
  refine V_iload d_O_partInTwo_10 rfl ?_
  refine V_istore_6 d_O_partInTwo_12 rfl ?_
  refine V_iconst (nI 0) d_O_partInTwo_14 rfl ?_
  refine V_istore_7 d_O_partInTwo_15 rfl ?_
  exact lp _ 0 rfl (Nat.zero_le _) (Nat.zero_and _)
end
section
-- ORDER: the most legs
theorem hv_mxN {a b : Nat} (ha : a < 2 ^ 31) (hb : b < 2 ^ 31) : hv_mx (nI a) (nI b) = nI (max a b) := by
  unfold hv_mx
  by_cases c : a < b
  · rw [if_pos ((nI_ltI ha hb).mpr c), Nat.max_eq_right (by omega)]
  · rw [if_neg (fun q => c ((nI_ltI ha hb).mp q)), Nat.max_eq_left (by omega)]
def mlA (lg : Nat → Nat) : Nat → Nat
  | 0 => 0
  | i + 1 => max (mlA lg i) (pc_ (lg (2 ^ i)))
def mlB (lg md : Nat → Nat) (b : Nat) : Nat → Nat
  | 0 => b
  | i + 1 => max (mlB lg md b i) (pc_ (lg (md i)))
theorem mlA_le {lg : Nat → Nat} (h : ∀ s, s < 1024 → lg s < 2 ^ 20) : ∀ {i : Nat}, i ≤ 10 → mlA lg i ≤ 20
  | 0, _ => by simp [mlA]
  | i + 1, hi => Nat.max_le.mpr ⟨mlA_le h (by omega), pc_le (h _ (Nat.lt_of_lt_of_le (Nat.pow_lt_pow_right (by decide) (show i < 10 by omega)) (by decide)))⟩
theorem mlB_le {lg md : Nat → Nat} {b n : Nat} (h : ∀ s, s < 1024 → lg s < 2 ^ 20) (hb : b ≤ 20) (hm : ∀ i, i < n → md i < 1024) : ∀ {i : Nat}, i ≤ n → mlB lg md b i ≤ 20
  | 0, _ => hb
  | i + 1, hi => Nat.max_le.mpr ⟨mlB_le h hb hm (by omega), pc_le (h _ (hm i (by omega)))⟩
set_option maxRecDepth 100000 in
set_option maxHeartbeats 4000000 in
theorem c_O_findMostLegs (l : Launch) (D : hv_D) (h : hv_P) (nx : Nat) {a c : Nat} {ac ml : Int32} {lg md : Nat → Nat} (ha : h a = some (oO a ac ml)) (hl : h (a + 1) = some (eN 1024 lg)) (hm : h (a + 4) = some (eN 10 md)) (hc1 : 1 ≤ c) (hc2 : c ≤ 10) (hlg : ∀ s, s < 1024 → lg s < 2 ^ 20) (hmd : ∀ i, i < c - 1 → md i < 1024) : hv_N l D M_O_findMostLegs (hv_rm 1 21 0 0) [.ref a, .int (nI c)] h nx (hv_ans none (fun h' n' => h' = hv_ov h [(a, oO a ac (nI (mlB lg md (mlA lg c) (c - 1)))), (a + 1, eN 1024 lg), (a + 4, eN 10 md)] ∧ n' = nx)) := by
  have lp2 : ∀ (k i : Nat), k = (c - 1) - i → i ≤ (c - 1) → hv_V l D M_O_findMostLegs (fun _ _ => True) (hv_rm 1 21 0 0) (hv_ans none (fun h' n' => h' = hv_ov h [(a, oO a ac (nI (mlB lg md (mlA lg c) (c - 1)))), (a + 1, eN 1024 lg), (a + 4, eN 10 md)] ∧ n' = nx)) 0 0 (hv_ov h [(a, oO a ac (nI (mlB lg md (mlA lg c) i))), (a + 1, eN 1024 lg), (a + 4, eN 10 md)]) nx 42 [some (.ref a), some (.int (nI c)), some (.int (nI i))] [] := by
    intro k
    induction k using Nat.strongRecOn with
    | ind k ih =>
      intro i hk hi
      refine V_iload_n d_O_findMostLegs_42 rfl ?_
      refine V_iload_n d_O_findMostLegs_43 rfl ?_
      refine V_iconst (nI 1) d_O_findMostLegs_44 rfl ?_
      refine V_isubN d_O_findMostLegs_45 (by omega) ?_
      refine V_icmp_geN 80 d_O_findMostLegs_46 (by decide) (by omega) (by omega) (fun c2 => ?_) (fun c2 => ?_)
      · exact V_return d_O_findMostLegs_80 rfl ⟨rfl, by rw [show i = c - 1 by omega], rfl⟩
      · have hm := hmd i (by omega)
        have hl := hlg _ hm
        have hb := mlB_le hlg (mlA_le hlg hc2) hmd (i := i) (by omega)
        refine V_aload_n d_O_findMostLegs_49 rfl ?_
        refine V_aload_n d_O_findMostLegs_50 rfl ?_
        refine V_getfield d_O_findMostLegs_51 fl_O_56 (og_0) rfl ?_
        refine V_aload_n d_O_findMostLegs_54 rfl ?_
        refine V_getfield d_O_findMostLegs_55 fl_O_9 (og_0) rfl ?_
        refine V_aload_n d_O_findMostLegs_58 rfl ?_
        refine V_getfield d_O_findMostLegs_59 fl_O_21 (og_0) rfl ?_
        refine V_iload_n d_O_findMostLegs_62 rfl ?_
        refine V_iaload d_O_findMostLegs_63 (og_2 (by omega) (by omega)) ⟨rfl, by omega, by decide⟩ ?_
        refine V_iaload d_O_findMostLegs_64 (og_1 (by omega)) ⟨rfl, hm, by decide⟩ ?_
        refine V_callS1 d_O_findMostLegs_65 ml_O_53 mB_JI_bitCount ms_JI_bitCount (c_bitCount l D _ _ (Nat.lt_of_lt_of_le hl (by decide))) rfl rfl rfl rfl rfl rfl rfl ?_
        rintro _ _ ⟨rfl, rfl⟩
        refine V_callS1 d_O_findMostLegs_68 ml_O_59 mB_JM_max ms_JM_max (c_max l D _ _ _ _) rfl rfl rfl rfl rfl rfl rfl ?_
        rintro _ _ ⟨rfl, rfl⟩
        refine V_eqI (hv_mxN (by omega) (by have := pc_le hl; omega)) ?_
        refine V_put (e' := oO a ac (nI (mlB lg md (mlA lg c) (i + 1)))) d_O_findMostLegs_71 fp_O_56 (og_0) rfl rfl rfl rfl (ou_0) ?_
        refine V_iincN_2 1 d_O_findMostLegs_74 rfl rfl ?_
        refine V_goto 42 d_O_findMostLegs_77 (by decide) ?_
        exact ih (c - 1 - (i + 1)) (by omega) (i + 1) rfl (by omega)
  have lp1 : ∀ (k i : Nat), k = c - i → i ≤ c → hv_V l D M_O_findMostLegs (fun _ _ => True) (hv_rm 1 21 0 0) (hv_ans none (fun h' n' => h' = hv_ov h [(a, oO a ac (nI (mlB lg md (mlA lg c) (c - 1)))), (a + 1, eN 1024 lg), (a + 4, eN 10 md)] ∧ n' = nx)) 0 0 (hv_ov h [(a, oO a ac (nI (mlA lg i))), (a + 1, eN 1024 lg), (a + 4, eN 10 md)]) nx 7 [some (.ref a), some (.int (nI c)), some (.int (nI i))] [] := by
    intro k
    induction k using Nat.strongRecOn with
    | ind k ih =>
      intro i hk hi
      refine V_iload_n d_O_findMostLegs_7 rfl ?_
      refine V_iload_n d_O_findMostLegs_8 rfl ?_
      refine V_icmp_geN 40 d_O_findMostLegs_9 (by decide) (by omega) (by omega) (fun c1 => ?_) (fun c1 => ?_)
      · have ec : i = c := by omega
        subst ec
        refine V_iconst (nI 0) d_O_findMostLegs_40 rfl ?_
        refine V_istore_2 d_O_findMostLegs_41 rfl ?_
        exact lp2 _ 0 rfl (Nat.zero_le _)
      · have hl := hlg (1 * 2 ^ i) (by rw [Nat.one_mul]; exact (Nat.lt_of_lt_of_le (Nat.pow_lt_pow_right (by decide) (show i < 10 by omega)) (by decide)))
        have hb := mlA_le hlg (i := i) (by omega)
        refine V_aload_n d_O_findMostLegs_12 rfl ?_
        refine V_aload_n d_O_findMostLegs_13 rfl ?_
        refine V_getfield d_O_findMostLegs_14 fl_O_56 (og_0) rfl ?_
        refine V_aload_n d_O_findMostLegs_17 rfl ?_
        refine V_getfield d_O_findMostLegs_18 fl_O_9 (og_0) rfl ?_
        refine V_iconst (nI 1) d_O_findMostLegs_21 rfl ?_
        refine V_iload_n d_O_findMostLegs_22 rfl ?_
        refine V_ishlN d_O_findMostLegs_23 (by omega) ?_
        refine V_iaload d_O_findMostLegs_24 (og_1 (by omega)) ⟨rfl, by rw [Nat.one_mul]; exact (Nat.lt_of_lt_of_le (Nat.pow_lt_pow_right (by decide) (show i < 10 by omega)) (by decide)), by decide⟩ ?_
        refine V_callS1 d_O_findMostLegs_25 ml_O_53 mB_JI_bitCount ms_JI_bitCount (c_bitCount l D _ _ (Nat.lt_of_lt_of_le hl (by decide))) rfl rfl rfl rfl rfl rfl rfl ?_
        rintro _ _ ⟨rfl, rfl⟩
        refine V_callS1 d_O_findMostLegs_28 ml_O_59 mB_JM_max ms_JM_max (c_max l D _ _ _ _) rfl rfl rfl rfl rfl rfl rfl ?_
        rintro _ _ ⟨rfl, rfl⟩
        refine V_eqI (hv_mxN (by omega) (by have := pc_le hl; omega)) ?_
        rw [Nat.one_mul]
        refine V_put (e' := oO a ac (nI (mlA lg (i + 1)))) d_O_findMostLegs_31 fp_O_56 (og_0) rfl rfl rfl rfl (ou_0) ?_
        refine V_iincN_2 1 d_O_findMostLegs_34 rfl rfl ?_
        refine V_goto 7 d_O_findMostLegs_37 (by decide) ?_
        exact ih (c - (i + 1)) (by omega) (i + 1) rfl (by omega)
  refine hv_N.of' [some (.ref a), some (.int (nI c)), none] (by decide +kernel) rfl rfl rfl ?_
  refine V_eqH (ob_3 ha hl hm) ?_
  refine V_aload_n d_O_findMostLegs_0 rfl ?_
  refine V_iconst (nI 0) d_O_findMostLegs_1 rfl ?_
  refine V_put (e' := oO a ac (nI 0)) d_O_findMostLegs_2 fp_O_56 (og_0) rfl rfl rfl rfl (ou_0) ?_
  refine V_iconst (nI 0) d_O_findMostLegs_5 rfl ?_
  refine V_istore_2 d_O_findMostLegs_6 rfl ?_
  exact lp1 _ 0 rfl (Nat.zero_le _)
end
section
-- STEPS: the order's tree, and its walk with a stack
def gd (fi : Nat → Nat) : Nat → Nat → Prop
  | 0, _ => False
  | n + 1, S => (S ≠ 0 ∧ S < 1024) ∧ (S &&& (S - 1) = 0 ∨ ((fi S &&& S = fi S ∧ fi S ≠ 0 ∧ fi S ≠ S) ∧ gd fi n (fi S) ∧ gd fi n (S ^^^ fi S)))
def pv (fi : Nat → Nat) : Nat → Nat → List Nat
  | 0, _ => []
  | n + 1, S => if S &&& (S - 1) = 0 then [] else S :: (pv fi n (S ^^^ fi S) ++ pv fi n (fi S))
theorem gd_mono {fi : Nat → Nat} : ∀ {n S : Nat}, gd fi n S → gd fi (n + 1) S
  | 0, S, h => h.elim
  | n + 1, S, h => ⟨h.1, h.2.imp id (fun q => ⟨q.1, gd_mono q.2.1, gd_mono q.2.2⟩)⟩
theorem pv_mono {fi : Nat → Nat} : ∀ {n S : Nat}, gd fi n S → pv fi (n + 1) S = pv fi n S
  | 0, S, h => h.elim
  | n + 1, S, h => by
    by_cases c : S &&& (S - 1) = 0
    · simp [pv, c]
    · obtain ⟨-, g1, g2⟩ := h.2.resolve_left c
      have e1 := pv_mono g1
      have e2 := pv_mono g2
      show (if S &&& (S - 1) = 0 then [] else S :: (pv fi (n + 1) (S ^^^ fi S) ++ pv fi (n + 1) (fi S))) = (if S &&& (S - 1) = 0 then [] else S :: (pv fi n (S ^^^ fi S) ++ pv fi n (fi S)))
      rw [e1, e2]
theorem pc_part {x S : Nat} (h : x &&& S = x) : pc_ x + pc_ (S ^^^ x) = pc_ S := by
  have h1 : ∀ i, ¬ (x.testBit i = true ∧ (S ^^^ x).testBit i = true) := by
    intro i
    have := sub_bits h i
    rw [Nat.testBit_xor]
    cases hx : x.testBit i <;> simp_all
  have h2 : x ||| (S ^^^ x) = S := by
    apply Nat.eq_of_testBit_eq
    intro i
    have := sub_bits h i
    simp only [Nat.testBit_or, Nat.testBit_xor]
    cases hm : x.testBit i <;> simp_all
  rw [← pc_n_or h1 32, h2]
theorem pc_one : ∀ S, S < 1024 → S ≠ 0 → (S &&& (S - 1) = 0 ↔ pc_ S = 1) := by decide +kernel
theorem pc_pos : ∀ S, S < 1024 → S ≠ 0 → 1 ≤ pc_ S := by decide +kernel
theorem pv_len {fi : Nat → Nat} : ∀ {n S : Nat}, gd fi n S → (pv fi n S).length + 1 = pc_ S
  | 0, S, h => h.elim
  | n + 1, S, h => by
    by_cases c : S &&& (S - 1) = 0
    · have := (pc_one S h.1.2 h.1.1).mp c
      simp [pv, c, this]
    · obtain ⟨q, g1, g2⟩ := h.2.resolve_left c
      have e1 := pv_len g1
      have e2 := pv_len g2
      have e3 := pc_part q.1
      simp [pv, c]
      omega
theorem pv_in {fi : Nat → Nat} : ∀ {n S : Nat}, gd fi n S → ∀ x ∈ pv fi n S, x < 1024
  | 0, S, h => h.elim
  | n + 1, S, h => by
    intro x hx
    by_cases c : S &&& (S - 1) = 0
    · simp [pv, c] at hx
    · obtain ⟨q, g1, g2⟩ := h.2.resolve_left c
      simp only [pv, if_neg c, List.mem_cons, List.mem_append] at hx
      rcases hx with rfl | hx | hx
      · exact h.1.2
      · exact pv_in g2 x hx
      · exact pv_in g1 x hx
def rem_ (fi : Nat → Nat) (V : List Nat) : List Nat := (V.reverse.map (pv fi 10)).flatten
def szs (V : List Nat) : Nat := (V.map pc_).sum
theorem rem_s {fi : Nat → Nat} (V : List Nat) (S : Nat) : rem_ fi (V ++ [S]) = pv fi 10 S ++ rem_ fi V := by simp [rem_]
theorem rem_2 {fi : Nat → Nat} {V : List Nat} {S : Nat} (h : gd fi 10 S) (c : ¬ S &&& (S - 1) = 0) : rem_ fi (V ++ [S]) = S :: rem_ fi (V ++ [fi S, S ^^^ fi S]) := by
  obtain ⟨q, g1, g2⟩ := h.2.resolve_left c
  have e1 := pv_mono g1
  have e2 := pv_mono g2
  rw [rem_s, show V ++ [fi S, S ^^^ fi S] = V ++ [fi S] ++ [S ^^^ fi S] by simp, rem_s, rem_s]
  show (if S &&& (S - 1) = 0 then [] else S :: (pv fi 9 (S ^^^ fi S) ++ pv fi 9 (fi S))) ++ rem_ fi V = _
  rw [if_neg c, e1, e2]
  simp
theorem szs_s (V : List Nat) (S : Nat) : szs (V ++ [S]) = szs V + pc_ S := by simp [szs]
theorem rem_len {fi : Nat → Nat} : ∀ {V : List Nat}, (∀ S ∈ V, gd fi 10 S) → (rem_ fi V).length + V.length = szs V
  | [], _ => rfl
  | S :: V, h => by
    have ih := rem_len (V := V) (fun x hx => h x (List.mem_cons_of_mem _ hx))
    have e := pv_len (h S List.mem_cons_self)
    simp [rem_, szs] at ih ⊢
    omega
theorem len_szs {fi : Nat → Nat} {V : List Nat} (h : ∀ S ∈ V, gd fi 10 S) : V.length ≤ szs V := by
  have := rem_len h
  omega
theorem last_of {V : List Nat} {n : Nat} (h : V.length = n + 1) : ∃ V0 S, V = V0 ++ [S] ∧ V0.length = n := by
  have hne : V ≠ [] := by intro q; rw [q] at h; simp at h
  refine ⟨V.dropLast, V.getLast hne, (List.dropLast_concat_getLast hne).symm, ?_⟩
  rw [List.length_dropLast, h]
  omega
theorem st_1 (n : Nat) : nI n + (-1) + nI 1 = nI n := by
  have : nI 1 = 1 := rfl
  rw [this]
  grind
theorem st_2 (n : Nat) : nI n + (-1) + nI 2 = nI (n + 1) := by
  have : nI 2 = 1 + 1 := rfl
  rw [this, nI_succ]
  grind
theorem st_3 (n : Nat) : nI n + (-1) + 2 = nI (n + 2) + (-1) := by
  rw [show n + 2 = n + 1 + 1 from rfl, nI_succ, nI_succ]
  grind
def lsV (fi : Nat → Nat) (al c v : Nat) (V : List Nat) (md wt : Nat → Nat) : Prop := (∀ S ∈ V, gd fi 10 S) ∧ v + 2 * szs V = 2 * c - 1 + V.length ∧ szs V ≤ c ∧ (∀ i, i < V.length → V[i]? = some (wt i)) ∧ (∀ j, (rem_ fi V).length ≤ j → j < c - 1 → md j = (pv fi 10 al).getD (c - 2 - j) 0) ∧ ∃ O, pv fi 10 al = O ++ rem_ fi V
theorem ls_top {fi : Nat → Nat} {al c v : Nat} {V0 : List Nat} {S : Nat} {md wt : Nat → Nat} (h : lsV fi al c v (V0 ++ [S]) md wt) : wt V0.length = S ∧ gd fi 10 S ∧ S ≠ 0 ∧ S < 1024 := by
  have h1 := h.2.2.2.1 V0.length (by simp)
  have h2 := h.1 S (by simp)
  simp at h1
  exact ⟨h1.symm, h2, h2.1⟩
theorem ls_one {fi : Nat → Nat} {al c v : Nat} {V0 : List Nat} {S : Nat} {md wt : Nat → Nat} (h : lsV fi al c v (V0 ++ [S]) md wt) (c0 : S &&& (S - 1) = 0) : lsV fi al c (v + 1) V0 md wt ∧ (rem_ fi (V0 ++ [S])).length = (rem_ fi V0).length := by
  obtain ⟨t1, t2, t3, t4⟩ := ls_top h
  obtain ⟨h1, h2, h3, h4, h5, O, h6⟩ := h
  have e : rem_ fi (V0 ++ [S]) = rem_ fi V0 := by rw [rem_s]; simp [pv, c0]
  have p1 := (pc_one S t4 t3).mp c0
  rw [szs_s, p1] at h2 h3
  rw [e] at h5 h6
  refine ⟨⟨fun x hx => h1 x (by simp [hx]), by simp at h2; omega, by omega, fun i hi => ?_, h5, O, h6⟩, by rw [e]⟩
  have := h4 i (by simp; omega)
  rw [List.getElem?_append_left hi] at this
  exact this
theorem ls_two {fi : Nat → Nat} {al c v : Nat} {V0 : List Nat} {S : Nat} {md wt : Nat → Nat} (hal : (pv fi 10 al).length + 1 = c) (h : lsV fi al c v (V0 ++ [S]) md wt) (c0 : ¬ S &&& (S - 1) = 0) :
    lsV fi al c (v + 1) (V0 ++ [fi S, S ^^^ fi S]) (va_up md (rem_ fi (V0 ++ [fi S, S ^^^ fi S])).length S) (va_up (va_up wt V0.length (fi S)) (V0.length + 1) (S ^^^ fi S)) ∧ (rem_ fi (V0 ++ [S])).length = (rem_ fi (V0 ++ [fi S, S ^^^ fi S])).length + 1 ∧ (rem_ fi (V0 ++ [fi S, S ^^^ fi S])).length < c - 1 ∧ V0.length + 2 ≤ c := by
  obtain ⟨t1, t2, t3, t4⟩ := ls_top h
  obtain ⟨h1, h2, h3, h4, h5, O, h6⟩ := h
  have e := rem_2 (V := V0) t2 c0
  obtain ⟨q, g1, g2⟩ := t2.2.resolve_left c0
  have hsz : szs (V0 ++ [fi S, S ^^^ fi S]) = szs (V0 ++ [S]) := by
    have := pc_part q.1
    simp [szs]
    omega
  have hg : ∀ x ∈ V0 ++ [fi S, S ^^^ fi S], gd fi 10 x := by
    intro x hx
    simp at hx
    rcases hx with hx | rfl | rfl
    · exact h1 x (by simp [hx])
    · exact gd_mono g1
    · exact gd_mono g2
  have hl := len_szs hg
  have hO : O.length + (1 + (rem_ fi (V0 ++ [fi S, S ^^^ fi S])).length) = c - 1 := by
    have := congrArg List.length h6
    rw [e] at this
    simp at this
    omega
  refine ⟨⟨hg, ?_, by rw [hsz]; exact h3, ?_, ?_, O ++ [S], by rw [h6, e]; simp⟩, by rw [e]; simp, by omega, ?_⟩
  · rw [hsz]
    simp at h2 ⊢
    omega
  · intro i hi
    simp at hi
    by_cases c1 : i < V0.length
    · have := h4 i (by simp; omega)
      rw [List.getElem?_append_left c1] at this ⊢
      rw [this]
      simp only [va_up]
      rw [if_neg (by omega), if_neg (by omega)]
    · rw [List.getElem?_append_right (by omega)]
      by_cases c2 : i = V0.length
      · subst c2
        simp [va_up]
      · have c3 : i = V0.length + 1 := by omega
        subst c3
        simp [va_up]
  · intro j hj1 hj2
    by_cases c1 : j = (rem_ fi (V0 ++ [fi S, S ^^^ fi S])).length
    · subst c1
      have e2 : c - 2 - (rem_ fi (V0 ++ [fi S, S ^^^ fi S])).length = O.length := by omega
      rw [e2, h6, e]
      simp [va_up]
    · simp only [va_up, if_neg c1]
      exact h5 j (by rw [e]; simp; omega) hj2
  · rw [hsz] at hl
    simp at hl
    omega
end
section
-- ORDER: listSteps
set_option maxRecDepth 100000 in
set_option maxHeartbeats 4000000 in
theorem c_O_listSteps (l : Launch) (D : hv_D) (h : hv_P) (nx : Nat) {a al c : Nat} {ac ml : Int32} {fi md0 wt0 : Nat → Nat} (ha : h a = some (oO a ac ml)) (hf : h (a + 3) = some (eN 1024 fi)) (hm : h (a + 4) = some (eN 10 md0)) (hw0 : h (a + 5) = some (eN 11 wt0)) (hc1 : 1 ≤ c) (hc2 : c ≤ 10) (hgd : gd fi 10 al) (hpc : pc_ al = c) : hv_N l D M_O_listSteps (hv_rm 0 0 0 0) [.ref a, .int (nI al), .int (nI c)] h nx (hv_ans none (fun h' n' => n' = nx ∧ ∃ md' wt' : Nat → Nat, h' = hv_ov h [(a, oO a ac ml), (a + 3, eN 1024 fi), (a + 4, eN 10 md'), (a + 5, eN 11 wt')] ∧ ∀ j, j < c - 1 → md' j = (pv fi 10 al).getD (c - 2 - j) 0)) := by
  have hlen : (pv fi 10 al).length + 1 = c := by rw [pv_len hgd, hpc]
  have lp : ∀ (k v : Nat), k = (2 * c - 1) - v → v ≤ (2 * c - 1) → ∀ (V : List Nat) (md wt : Nat → Nat), lsV fi al c v V md wt → hv_V l D M_O_listSteps (fun _ _ => True) (hv_rm 0 0 0 0) (hv_ans none (fun h' n' => n' = nx ∧ ∃ md' wt' : Nat → Nat, h' = hv_ov h [(a, oO a ac ml), (a + 3, eN 1024 fi), (a + 4, eN 10 md'), (a + 5, eN 11 wt')] ∧ ∀ j, j < c - 1 → md' j = (pv fi 10 al).getD (c - 2 - j) 0)) 0 0 (hv_ov h [(a, oO a ac ml), (a + 3, eN 1024 fi), (a + 4, eN 10 md), (a + 5, eN 11 wt)]) nx 17 [some (.ref a), some (.int (nI al)), some (.int (nI c)), some (.int (nI (rem_ fi V).length)), some (.int (nI V.length + (-1))), some (.int (nI v)), none] [] := by
    intro k
    induction k using Nat.strongRecOn with
    | ind k ih =>
      intro v hk hi V md wt LS
      refine V_iload d_O_listSteps_17 rfl ?_
      refine V_iconst (nI 2) d_O_listSteps_19 rfl ?_
      refine V_iload_n d_O_listSteps_20 rfl ?_
      refine V_imulN d_O_listSteps_21 ?_
      refine V_iconst (nI 1) d_O_listSteps_22 rfl ?_
      refine V_isubN d_O_listSteps_23 (by omega) ?_
      refine V_icmp_geN 104 d_O_listSteps_24 (by decide) (by omega) (by omega) (fun cv => ?_) (fun cv => ?_)
      · exact V_return d_O_listSteps_104 rfl ⟨rfl, rfl, md, wt, rfl, fun j hj => LS.2.2.2.2.1 j (by have z1 := LS.2.1; have z2 := len_szs LS.1; have z3 := rem_len LS.1; omega) hj⟩
      · obtain ⟨V0, S, rfl, hn0⟩ := last_of (V := V) (n := V.length - 1) (by
          have z := LS.2.1
          have z2 := len_szs LS.1
          rcases Nat.eq_zero_or_pos V.length with q | q
          · rw [List.length_eq_zero_iff] at q
            subst q
            simp [szs] at z
            omega
          · omega)
        have hl0 : (V0 ++ [S]).length = V0.length + 1 := by simp
        have hlc : V0.length + 1 ≤ c := by
          have z := len_szs LS.1
          have z2 := LS.2.2.1
          omega
        obtain ⟨hw, hgS, hS0, hS1⟩ := ls_top LS
        rw [hl0]
        refine V_aload_n d_O_listSteps_27 rfl ?_
        refine V_getfield d_O_listSteps_28 fl_O_24 (og_0) rfl ?_
        refine V_iload d_O_listSteps_31 rfl ?_
        refine V_eqI (pk_m1 V0.length) ?_
        refine V_iaload d_O_listSteps_33 (og_3 (by omega) (by omega) (by omega)) ⟨rfl, by omega, by decide⟩ ?_
        rw [hw]
        refine V_istore_6 d_O_listSteps_34 rfl ?_
        refine V_iinc_4 (-1) d_O_listSteps_36 rfl rfl ?_
        rw [pk_m1 V0.length]
        refine V_iload d_O_listSteps_39 rfl ?_
        refine V_iload d_O_listSteps_41 rfl ?_
        refine V_iconst (nI 1) d_O_listSteps_43 rfl ?_
        refine V_isubN d_O_listSteps_44 (by omega) ?_
        refine V_iandN d_O_listSteps_45 ?_
        refine V_if_eqN 98 d_O_listSteps_46 (by decide) (Nat.lt_of_le_of_lt Nat.and_le_left (by omega)) (fun cs => ?_) (fun cs => ?_)
        · obtain ⟨L1, L2⟩ := ls_one LS cs
          rw [L2]
          have J := ih (2 * c - 1 - (v + 1)) (by omega) (v + 1) rfl (by omega) V0 md wt L1
          refine V_iincN_5 1 d_O_listSteps_98 rfl rfl ?_
          refine V_goto 17 d_O_listSteps_101 (by decide) ?_
          refine V_drop_6 ?_
          exact J
        · obtain ⟨L1, L2, L3, L4⟩ := ls_two hlen LS cs
          rw [L2]
          have J := ih (2 * c - 1 - (v + 1)) (by omega) (v + 1) rfl (by omega) _ _ _ L1
          rw [show (V0 ++ [fi S, S ^^^ fi S]).length = V0.length + 2 by simp, ← st_3] at J
          refine V_iinc_3 (-1) d_O_listSteps_49 rfl rfl ?_
          rw [pk_m1]
          refine V_aload_n d_O_listSteps_52 rfl ?_
          refine V_getfield d_O_listSteps_53 fl_O_21 (og_0) rfl ?_
          refine V_iload_n d_O_listSteps_56 rfl ?_
          refine V_iload d_O_listSteps_57 rfl ?_
          refine V_istN d_O_listSteps_59 (og_2 (by omega) (by omega)) ⟨rfl, by omega, by decide⟩ (ou_2 (by omega) (by omega)) ?_
          refine V_aload_n d_O_listSteps_60 rfl ?_
          refine V_getfield d_O_listSteps_61 fl_O_24 (og_0) rfl ?_
          refine V_iload d_O_listSteps_64 rfl ?_
          refine V_iconst (nI 1) d_O_listSteps_66 rfl ?_
          refine V_iadd d_O_listSteps_67 ?_
          refine V_eqI (st_1 V0.length) ?_
          refine V_aload_n d_O_listSteps_68 rfl ?_
          refine V_getfield d_O_listSteps_69 fl_O_18 (og_0) rfl ?_
          refine V_iload d_O_listSteps_72 rfl ?_
          refine V_iaload d_O_listSteps_74 (og_1 (by omega)) ⟨rfl, hS1, by decide⟩ ?_
          refine V_istN d_O_listSteps_75 (og_3 (by omega) (by omega) (by omega)) ⟨rfl, by omega, by decide⟩ (ou_3 (by omega) (by omega) (by omega)) ?_
          refine V_aload_n d_O_listSteps_76 rfl ?_
          refine V_getfield d_O_listSteps_77 fl_O_24 (og_0) rfl ?_
          refine V_iload d_O_listSteps_80 rfl ?_
          refine V_iconst (nI 2) d_O_listSteps_82 rfl ?_
          refine V_iadd d_O_listSteps_83 ?_
          refine V_eqI (st_2 V0.length) ?_
          refine V_iload d_O_listSteps_84 rfl ?_
          refine V_aload_n d_O_listSteps_86 rfl ?_
          refine V_getfield d_O_listSteps_87 fl_O_18 (og_0) rfl ?_
          refine V_iload d_O_listSteps_90 rfl ?_
          refine V_iaload d_O_listSteps_92 (og_1 (by omega)) ⟨rfl, hS1, by decide⟩ ?_
          refine V_ixorN d_O_listSteps_93 ?_
          refine V_istN d_O_listSteps_94 (og_3 (by omega) (by omega) (by omega)) ⟨rfl, by omega, by decide⟩ (ou_3 (by omega) (by omega) (by omega)) ?_
          refine V_iinc_4 (2) d_O_listSteps_95 rfl rfl ?_
          refine V_iincN_5 1 d_O_listSteps_98 rfl rfl ?_
          refine V_goto 17 d_O_listSteps_101 (by decide) ?_
          refine V_drop_6 ?_
          exact J
  refine hv_N.of' [some (.ref a), some (.int (nI al)), some (.int (nI c)), none, none, none, none] (by decide +kernel) rfl rfl rfl ?_
  refine V_eqH (ob_4 ha hf hm hw0) ?_
  refine V_iload_n d_O_listSteps_0 rfl ?_
  refine V_iconst (nI 1) d_O_listSteps_1 rfl ?_
  refine V_isubN d_O_listSteps_2 (by omega) ?_
  refine V_istore_3 d_O_listSteps_3 rfl ?_
  refine V_iconst (nI 0) d_O_listSteps_4 rfl ?_
  refine V_istore_4 d_O_listSteps_5 rfl ?_
  refine V_aload_n d_O_listSteps_7 rfl ?_
  refine V_getfield d_O_listSteps_8 fl_O_24 (og_0) rfl ?_
  refine V_iconst (nI 0) d_O_listSteps_11 rfl ?_
  refine V_iload_n d_O_listSteps_12 rfl ?_
  refine V_istN d_O_listSteps_13 (og_3 (by omega) (by omega) (by omega)) ⟨rfl, by decide, by decide⟩ (ou_3 (by omega) (by omega) (by omega)) ?_
  refine V_iconst (nI 0) d_O_listSteps_14 rfl ?_
  refine V_istore_5 d_O_listSteps_15 rfl ?_
  have L0 : lsV fi al c 0 [al] md0 (va_up wt0 0 al) := by
    refine ⟨fun S hS => by simp at hS; rw [hS]; exact hgd, by simp [szs]; omega, by simp [szs]; omega, fun i hi => ?_, fun j hj1 hj2 => ?_, [], by simp [rem_]⟩
    · simp at hi
      subst hi
      simp [va_up]
    · simp [rem_] at hj1
      omega
  have J := lp _ 0 rfl (Nat.zero_le _) [al] md0 (va_up wt0 0 al) L0
  rw [show (rem_ fi [al]).length = c - 1 by simp [rem_]; omega, show nI [al].length + (-1) = nI 0 from pk_m1 0] at J
  exact J
end
section
-- FIND: the table of all sets
def tzf : Nat → Nat → Nat
  | 0, _ => 0
  | n + 1, s => if s % 2 = 1 then 0 else tzf n (s / 2) + 1
theorem tz_all : ∀ s, s < 1024 → s ≠ 0 → s % 2 ^ (tzf 10 s + 1) = 2 ^ tzf 10 s ∧ tzf 10 s < 10 ∧ 2 ^ tzf 10 s ||| (s &&& (s - 1)) = s ∧ (2 ^ tzf 10 s ||| (s &&& (s - 1))) ^^^ (s &&& (s - 1)) = 2 ^ tzf 10 s ∧ (s &&& (s - 1)) < s ∧ 2 ^ tzf 10 s ≤ s := by decide +kernel
abbrev gt3 : Type := (Nat → Nat) × (Nat → Nat) × (Nat → Nat)
def fdS (l1 : Nat → Nat) (al bd : Nat) (st : gt3) (s : Nat) : gt3 :=
  if s &&& (s - 1) = 0 then (va_up st.1 s (st.1 (s &&& (s - 1)) ^^^ l1 (tzf 10 s)), va_up st.2.1 s 0, st.2.2)
  else if s ≠ al ∧ bd < 2 * 2 ^ pc_ (st.1 (s &&& (s - 1)) ^^^ l1 (tzf 10 s)) then (va_up st.1 s (st.1 (s &&& (s - 1)) ^^^ l1 (tzf 10 s)), va_up st.2.1 s (bd + 1), st.2.2)
  else (va_up st.1 s (st.1 (s &&& (s - 1)) ^^^ l1 (tzf 10 s)), va_up st.2.1 s (ptF (va_up st.1 s (st.1 (s &&& (s - 1)) ^^^ l1 (tzf 10 s))) st.2.1 (2 ^ tzf 10 s) (s &&& (s - 1)) (bd + 1, 2 ^ tzf 10 s) (s &&& (s - 1))).1, va_up st.2.2 s (ptF (va_up st.1 s (st.1 (s &&& (s - 1)) ^^^ l1 (tzf 10 s))) st.2.1 (2 ^ tzf 10 s) (s &&& (s - 1)) (bd + 1, 2 ^ tzf 10 s) (s &&& (s - 1))).2)
def fdF (l1 : Nat → Nat) (al bd : Nat) (st : gt3) : Nat → gt3
  | 0 => st
  | s + 1 => if s = 0 then st else fdS l1 al bd (fdF l1 al bd st s) s
def fdOk (st : gt3) : Prop := ∀ s, s < 1024 → st.1 s < 2 ^ 20 ∧ st.2.1 s ≤ 2 ^ 26
theorem ptF_le {lg co : Nat → Nat} {ls r B : Nat} {f : Nat} : ∀ x, (ptF lg co ls r (B, f) x).1 ≤ B
  | 0 => Nat.le_refl _
  | x + 1 => by
    have ih := ptF_le (lg := lg) (co := co) (ls := ls) (r := r) (B := B) (f := f) x
    show (if x &&& r = x then _ else _ : Nat × Nat).1 ≤ _
    split
    · unfold ptS; split
      · show _ ≤ B; omega
      · exact ih
    · exact ih
theorem tz_lt {s c : Nat} (h0 : s ≠ 0) (hc : c ≤ 10) (h : s < 2 ^ c) : tzf 10 s < c := by
  have h1 : s < 1024 := Nat.lt_of_lt_of_le h (Nat.pow_le_pow_right (by decide) hc)
  have := (tz_all s h1 h0).2.2.2.2.2
  rcases Nat.lt_or_ge (tzf 10 s) c with q | q
  · exact q
  · have := Nat.pow_le_pow_right (n := 2) (by decide) q
    omega
theorem fdOk_s {l1 : Nat → Nat} {al bd : Nat} {st : gt3} {s : Nat} (h : fdOk st) (hl : l1 (tzf 10 s) < 2 ^ 20) (hr : s &&& (s - 1) < 1024) (hbd : bd < 2 ^ 26) : fdOk (fdS l1 al bd st s) := by
  have hx := Nat.xor_lt_two_pow (h _ hr).1 hl
  have up : ∀ (f : Nat → Nat) (x y B : Nat), (∀ q, q < 1024 → f q ≤ B) → y ≤ B → ∀ q, q < 1024 → va_up f x y q ≤ B := by
    intro f x y B h1 h2 q hq
    unfold va_up
    split
    · exact h2
    · exact h1 q hq
  have up2 : ∀ (f : Nat → Nat) (x y B : Nat), (∀ q, q < 1024 → f q < B) → y < B → ∀ q, q < 1024 → va_up f x y q < B := by
    intro f x y B h1 h2 q hq
    unfold va_up
    split
    · exact h2
    · exact h1 q hq
  have g1 := up2 st.1 s _ _ (fun q hq => (h q hq).1) hx
  intro q hq
  unfold fdS
  split
  · exact ⟨g1 q hq, up st.2.1 s 0 _ (fun q hq => (h q hq).2) (by omega) q hq⟩
  · split
    · exact ⟨g1 q hq, up st.2.1 s (bd + 1) _ (fun q hq => (h q hq).2) (by omega) q hq⟩
    · exact ⟨g1 q hq, up st.2.1 s _ _ (fun q hq => (h q hq).2) (Nat.le_trans (ptF_le _) (by omega)) q hq⟩
theorem fdOk_f {l1 : Nat → Nat} {al bd c : Nat} {st : gt3} (h : fdOk st) (hl : ∀ t, t < c → l1 t < 2 ^ 20) (hc : c ≤ 10) (hbd : bd < 2 ^ 26) : ∀ s, s ≤ 2 ^ c → fdOk (fdF l1 al bd st s)
  | 0, _ => h
  | s + 1, hs => by
    have ih := fdOk_f (al := al) h hl hc hbd s (by omega)
    show fdOk (if s = 0 then _ else _)
    split
    · exact h
    · rename_i h0
      refine fdOk_s ih (hl _ (tz_lt h0 hc (by omega))) ?_ hbd
      have : (2 : Nat) ^ c ≤ 2 ^ 10 := Nat.pow_le_pow_right (by decide) hc
      exact Nat.lt_of_le_of_lt Nat.and_le_left (by omega)
theorem bZ_0 {p : Bool} : bZ p = 0 ↔ p = false := by cases p <;> decide
end
section
-- ORDER: find
theorem c_O_part2 (l : Launch) (D : hv_D) (h : hv_P) (nx : Nat) {a ls r bd s : Nat} {ac ml : Int32} {lg co fi : Nat → Nat} (hs : ls ||| r = s) (ha : h a = some (oO a ac ml)) (hl : h (a + 1) = some (eN 1024 lg)) (hc : h (a + 2) = some (eN 1024 co)) (hf : h (a + 3) = some (eN 1024 fi)) (hdis : (ls ||| r) ^^^ r = ls) (hls : ls < 1024) (hr : r < 1024) (hbd : bd < 2 ^ 26) (hco : ∀ s, s < 1024 → co s ≤ 2 ^ 26) (hlg : ∀ s, s < 1024 → lg s < 2 ^ 20) : hv_N l D M_O_partInTwo (hv_rm 1 20 0 0) [.ref a, .int (nI s), .int (nI r), .int (nI bd)] h nx (hv_ans none (fun h' n' => h' = hv_ov h [(a, oO a ac ml), (a + 1, eN 1024 lg), (a + 2, eN 1024 (va_up co s (ptF lg co ls r (bd + 1, ls) r).1)), (a + 3, eN 1024 (va_up fi s (ptF lg co ls r (bd + 1, ls) r).2))] ∧ n' = nx)) := by
  subst hs
  exact c_O_partInTwo l D h nx ha hl hc hf hdis hls hr hbd hco hlg
set_option maxRecDepth 100000 in
set_option maxHeartbeats 4000000 in
theorem c_O_find (l : Launch) (D : hv_D) (h : hv_P) (nx : Nat) {a b c al bd : Nat} {ac ml : Int32} {lg0 co0 fi0 md0 wt0 l1 : Nat → Nat} (ha : h a = some (oO a ac ml)) (hl : h (a + 1) = some (eN 1024 lg0)) (hco : h (a + 2) = some (eN 1024 co0)) (hf : h (a + 3) = some (eN 1024 fi0)) (hm : h (a + 4) = some (eN 10 md0)) (hw : h (a + 5) = some (eN 11 wt0)) (hb : h b = some (eN 10 l1)) (hbd0 : b < a ∨ a + 5 < b) (hc1 : 1 ≤ c) (hc2 : c ≤ 10) (hal : al = 2 ^ c - 1) (hbd : bd < 2 ^ 26) (h0 : fdOk (lg0, co0, fi0)) (hl1 : ∀ t, t < c → l1 t < 2 ^ 20) (hpc : pc_ al = c) (hgd : gd (fdF l1 al bd (lg0, co0, fi0) (al + 1)).2.2 10 al) : hv_N l D M_O_find (hv_rm 2 50 0 0) [.ref a, .ref b, .int (nI c), .int (nI bd)] h nx (hv_ans none (fun h' n' => n' = nx ∧ ∃ md' wt' : Nat → Nat, h' = hv_ov h [(a, oO a (nI ((fdF l1 al bd (lg0, co0, fi0) (al + 1)).2.1 al)) (nI (mlB (fdF l1 al bd (lg0, co0, fi0) (al + 1)).1 md' (mlA (fdF l1 al bd (lg0, co0, fi0) (al + 1)).1 c) (c - 1)))), (a + 1, eN 1024 (fdF l1 al bd (lg0, co0, fi0) (al + 1)).1), (a + 2, eN 1024 (fdF l1 al bd (lg0, co0, fi0) (al + 1)).2.1), (a + 3, eN 1024 (fdF l1 al bd (lg0, co0, fi0) (al + 1)).2.2), (a + 4, eN 10 md'), (a + 5, eN 11 wt'), (b, eN 10 l1)] ∧ ∀ j, j < c - 1 → md' j = (pv (fdF l1 al bd (lg0, co0, fi0) (al + 1)).2.2 10 al).getD (c - 2 - j) 0)) := by
  have hp := Nat.two_pow_pos c
  have hal2 : (2 : Nat) ^ c ≤ 2 ^ 10 := Nat.pow_le_pow_right (by decide) hc2
  have lp : ∀ (k s : Nat), k = (al + 1) - s → s ≤ (al + 1) → 1 ≤ s → hv_V l D M_O_find (fun _ _ => True) (hv_rm 2 50 0 0) (hv_ans none (fun h' n' => n' = nx ∧ ∃ md' wt' : Nat → Nat, h' = hv_ov h [(a, oO a (nI ((fdF l1 al bd (lg0, co0, fi0) (al + 1)).2.1 al)) (nI (mlB (fdF l1 al bd (lg0, co0, fi0) (al + 1)).1 md' (mlA (fdF l1 al bd (lg0, co0, fi0) (al + 1)).1 c) (c - 1)))), (a + 1, eN 1024 (fdF l1 al bd (lg0, co0, fi0) (al + 1)).1), (a + 2, eN 1024 (fdF l1 al bd (lg0, co0, fi0) (al + 1)).2.1), (a + 3, eN 1024 (fdF l1 al bd (lg0, co0, fi0) (al + 1)).2.2), (a + 4, eN 10 md'), (a + 5, eN 11 wt'), (b, eN 10 l1)] ∧ ∀ j, j < c - 1 → md' j = (pv (fdF l1 al bd (lg0, co0, fi0) (al + 1)).2.2 10 al).getD (c - 2 - j) 0)) 0 0 (hv_ov h [(a, oO a (ac) (ml)), (a + 1, eN 1024 (fdF l1 al bd (lg0, co0, fi0) s).1), (a + 2, eN 1024 (fdF l1 al bd (lg0, co0, fi0) s).2.1), (a + 3, eN 1024 (fdF l1 al bd (lg0, co0, fi0) s).2.2), (a + 4, eN 10 md0), (a + 5, eN 11 wt0), (b, eN 10 l1)]) nx 10 [some (.ref a), some (.ref b), some (.int (nI c)), some (.int (nI bd)), some (.int (nI al)), some (.int (nI s)), none] [] := by
    intro k
    induction k using Nat.strongRecOn with
    | ind k ih =>
      intro s hk hi hs1
      refine V_iload d_O_find_10 rfl ?_
      refine V_iload d_O_find_12 rfl ?_
      refine V_icmp_gtN 109 d_O_find_14 (by decide) (by omega) (by omega) (fun cs => ?_) (fun cs => ?_)
      · have es : s = al + 1 := by omega
        subst es
        have okF := fdOk_f (al := al) h0 hl1 hc2 hbd (al + 1) (by omega)
        generalize (fdF l1 al bd (lg0, co0, fi0) (al + 1)) = F at okF hgd ⊢
        refine V_aload_n d_O_find_109 rfl ?_
        refine V_aload_n d_O_find_110 rfl ?_
        refine V_getfield d_O_find_111 fl_O_15 (og_0) rfl ?_
        refine V_iload d_O_find_114 rfl ?_
        refine V_iaload d_O_find_116 (og_2 (by omega) (by omega)) ⟨rfl, by omega, by decide⟩ ?_
        refine V_put (e' := oO a (nI (F.2.1 al)) ml) d_O_find_117 fp_O_41 (og_0) rfl rfl rfl rfl (ou_0) ?_
        refine V_aload_n d_O_find_120 rfl ?_
        refine V_iload d_O_find_121 rfl ?_
        refine V_iload_n d_O_find_123 rfl ?_
        refine V_callV0 d_O_find_124 ml_O_45 mB_O_listSteps mi_O_listSteps mv_O_listSteps rfl og_0 (c_O_listSteps l D _ _ og_0 (og_3 (by omega) (by omega) (by omega)) (og_4 (by omega) (by omega) (by omega) (by omega)) (og_5 (by omega) (by omega) (by omega) (by omega) (by omega)) hc1 hc2 hgd hpc) rfl rfl rfl rfl rfl rfl rfl ?_
        rintro _ _ ⟨rfl, md', wt', rfl, hmd⟩
        rw [ox_4, ou_5 (by omega) (by omega) (by omega) (by omega) (by omega), ou_4 (by omega) (by omega) (by omega) (by omega), ou_3 (by omega) (by omega) (by omega), ou_0]
        refine V_aload_n d_O_find_127 rfl ?_
        refine V_iload_n d_O_find_128 rfl ?_
        refine V_callV0 d_O_find_129 ml_O_49 mB_O_findMostLegs mi_O_findMostLegs mv_O_findMostLegs rfl og_0 (c_O_findMostLegs l D _ _ og_0 (og_1 (by omega)) (og_4 (by omega) (by omega) (by omega) (by omega)) hc1 hc2 (fun q hq => (okF q hq).1) (fun i hi => by rw [hmd i hi, List.getD_eq_getElem?_getD]; cases e : (pv F.2.2 10 al)[c - 2 - i]? with | none => exact (by decide : (0 : Nat) < 1024) | some x => exact pv_in hgd x (List.mem_of_getElem? e))) rfl rfl rfl rfl rfl rfl rfl ?_
        rintro _ _ ⟨rfl, rfl⟩
        rw [ox_3, ou_4 (by omega) (by omega) (by omega) (by omega), ou_1 (by omega), ou_0]
        exact V_return d_O_find_132 rfl ⟨rfl, rfl, md', wt', rfl, hmd⟩
      · have hal2 : (2 : Nat) ^ c ≤ 2 ^ 10 := Nat.pow_le_pow_right (by decide) hc2
        have s1 : s < 1024 := by omega
        obtain ⟨z1, z2, z3, z4, z5, z6⟩ := tz_all s s1 (by omega)
        have zt := tz_lt (by omega) hc2 (show s < 2 ^ c by omega)
        have ok := fdOk_f (al := al) h0 hl1 hc2 hbd s (by omega)
        have ES : (fdF l1 al bd (lg0, co0, fi0) (s + 1)) = fdS l1 al bd (fdF l1 al bd (lg0, co0, fi0) s) s := by show (if s = 0 then _ else _) = _; rw [if_neg (by omega)]
        have J := ih (al + 1 - (s + 1)) (by omega) (s + 1) rfl (by omega) (by omega)
        rw [ES] at J
        have lx := Nat.xor_lt_two_pow (ok _ (show s &&& (s - 1) < 1024 by omega)).1 (hl1 _ zt)
        unfold fdS at J
        generalize (fdF l1 al bd (lg0, co0, fi0) s) = st at ok lx J ⊢
        refine V_iload d_O_find_17 rfl ?_
        refine V_iload d_O_find_19 rfl ?_
        refine V_iconst (nI 1) d_O_find_21 rfl ?_
        refine V_isubN d_O_find_22 (by omega) ?_
        refine V_iandN d_O_find_23 ?_
        refine V_istore_6 d_O_find_24 rfl ?_
        refine V_aload_n d_O_find_26 rfl ?_
        refine V_getfield d_O_find_27 fl_O_9 (og_0) rfl ?_
        refine V_iload d_O_find_30 rfl ?_
        refine V_aload_n d_O_find_32 rfl ?_
        refine V_getfield d_O_find_33 fl_O_9 (og_0) rfl ?_
        refine V_iload d_O_find_36 rfl ?_
        refine V_iaload d_O_find_38 (og_1 (by omega)) ⟨rfl, by omega, by decide⟩ ?_
        refine V_aload_n d_O_find_39 rfl ?_
        refine V_iload d_O_find_40 rfl ?_
        refine V_callS1 d_O_find_42 ml_O_27 mB_JI_numberOfTrailingZeros ms_JI_numberOfTrailingZeros (c_ntz l D _ _ (tzf 10 s) (by omega) z1 (by omega)) rfl rfl rfl rfl rfl rfl rfl ?_
        rintro _ _ ⟨rfl, rfl⟩
        refine V_iaload d_O_find_45 (og_6 (by omega) (by omega) (by omega) (by omega) (by omega) (by omega)) ⟨rfl, z2, by decide⟩ ?_
        refine V_ixorN d_O_find_46 ?_
        refine V_istN d_O_find_47 (og_1 (by omega)) ⟨rfl, s1, by decide⟩ (ou_1 (by omega)) ?_
        refine V_iload d_O_find_48 rfl ?_
        refine V_if_neN 64 d_O_find_50 (by decide) (by omega) (fun cr => ?_) (fun cr => ?_)
        · rw [if_neg cr] at J
          refine V_iload d_O_find_64 rfl ?_
          refine V_iload d_O_find_66 rfl ?_
          refine V_icmp_eqN 94 d_O_find_68 (by decide) (by omega) (by omega) (fun ca => ?_) (fun ca => ?_)
          · rw [if_neg (fun q => q.1 ca)] at J
            refine V_aload_n d_O_find_94 rfl ?_
            refine V_iload d_O_find_95 rfl ?_
            refine V_iload d_O_find_97 rfl ?_
            refine V_iload_n d_O_find_99 rfl ?_
            refine V_callV0 d_O_find_100 ml_O_37 mB_O_partInTwo mi_O_partInTwo mv_O_partInTwo rfl og_0 (c_O_part2 l D _ _ z3 og_0 (og_1 (by omega)) (og_2 (by omega) (by omega)) (og_3 (by omega) (by omega) (by omega)) z4 (by omega) (by omega) hbd (fun q hq => (ok q hq).2) (fun q hq => by unfold va_up; split; exact lx; exact (ok q hq).1)) rfl rfl rfl rfl rfl rfl rfl ?_
            rintro _ _ ⟨rfl, rfl⟩
            rw [ox_4, ou_3 (by omega) (by omega) (by omega), ou_2 (by omega) (by omega), ou_1 (by omega), ou_0]
            refine V_iincN_5 1 d_O_find_103 rfl rfl ?_
            refine V_goto 10 d_O_find_106 (by decide) ?_
            refine V_drop_6 ?_
            exact J
          · refine V_aload_n d_O_find_71 rfl ?_
            refine V_iload d_O_find_72 rfl ?_
            refine V_iload_n d_O_find_74 rfl ?_
            refine V_callV1 d_O_find_75 ml_O_33 mB_O_isTooDear mi_O_isTooDear mv_O_isTooDear rfl og_0 (c_O_isTooDear l D _ _ og_0 (og_1 (by omega)) s1 (by simp only [va_up, if_true]; exact lx) (by omega)) rfl rfl rfl rfl rfl rfl rfl ?_
            rintro _ _ ⟨rfl, rfl⟩
            refine V_if_eq 94 d_O_find_78 (by decide) (fun cd => ?_) (fun cd => ?_)
            · have cd := bZ_0.mp cd
              simp only [va_up, if_true, decide_eq_false_iff_not] at cd
              rw [if_neg (fun q => cd q.2)] at J
              refine V_aload_n d_O_find_94 rfl ?_
              refine V_iload d_O_find_95 rfl ?_
              refine V_iload d_O_find_97 rfl ?_
              refine V_iload_n d_O_find_99 rfl ?_
              refine V_callV0 d_O_find_100 ml_O_37 mB_O_partInTwo mi_O_partInTwo mv_O_partInTwo rfl og_0 (c_O_part2 l D _ _ z3 og_0 (og_1 (by omega)) (og_2 (by omega) (by omega)) (og_3 (by omega) (by omega) (by omega)) z4 (by omega) (by omega) hbd (fun q hq => (ok q hq).2) (fun q hq => by unfold va_up; split; exact lx; exact (ok q hq).1)) rfl rfl rfl rfl rfl rfl rfl ?_
              rintro _ _ ⟨rfl, rfl⟩
              rw [ox_4, ou_3 (by omega) (by omega) (by omega), ou_2 (by omega) (by omega), ou_1 (by omega), ou_0]
              refine V_iincN_5 1 d_O_find_103 rfl rfl ?_
              refine V_goto 10 d_O_find_106 (by decide) ?_
              refine V_drop_6 ?_
              exact J
            · have cd : ¬ _ = false := fun q => cd (bZ_0.mpr q)
              simp only [va_up, if_true, decide_eq_false_iff_not, Classical.not_not] at cd
              rw [if_pos ⟨ca, cd⟩] at J
              refine V_aload_n d_O_find_81 rfl ?_
              refine V_getfield d_O_find_82 fl_O_15 (og_0) rfl ?_
              refine V_iload d_O_find_85 rfl ?_
              refine V_iload_n d_O_find_87 rfl ?_
              refine V_iconst (nI 1) d_O_find_88 rfl ?_
              refine V_iaddN d_O_find_89 ?_
              refine V_istN d_O_find_90 (og_2 (by omega) (by omega)) ⟨rfl, s1, by decide⟩ (ou_2 (by omega) (by omega)) ?_
              refine V_goto 103 d_O_find_91 (by decide) ?_
              refine V_iincN_5 1 d_O_find_103 rfl rfl ?_
              refine V_goto 10 d_O_find_106 (by decide) ?_
              refine V_drop_6 ?_
              exact J
        · rw [if_pos cr] at J
          refine V_aload_n d_O_find_53 rfl ?_
          refine V_getfield d_O_find_54 fl_O_15 (og_0) rfl ?_
          refine V_iload d_O_find_57 rfl ?_
          refine V_iconst (nI 0) d_O_find_59 rfl ?_
          refine V_istN d_O_find_60 (og_2 (by omega) (by omega)) ⟨rfl, s1, by decide⟩ (ou_2 (by omega) (by omega)) ?_
          refine V_goto 103 d_O_find_61 (by decide) ?_
          refine V_iincN_5 1 d_O_find_103 rfl rfl ?_
          refine V_goto 10 d_O_find_106 (by decide) ?_
          refine V_drop_6 ?_
          exact J
  refine hv_N.of' [some (.ref a), some (.ref b), some (.int (nI c)), some (.int (nI bd)), none, none, none] (by decide +kernel) rfl rfl rfl ?_
  refine V_eqH (ob_7 ha hl hco hf hm hw hb) ?_
  refine V_iconst (nI 1) d_O_find_0 rfl ?_
  refine V_iload_n d_O_find_1 rfl ?_
  refine V_ishlN d_O_find_2 (by omega) ?_
  refine V_iconst (nI 1) d_O_find_3 rfl ?_
  refine V_isubN d_O_find_4 (by omega) ?_
  rw [Nat.one_mul, ← hal]
  refine V_istore_4 d_O_find_5 rfl ?_
  refine V_iconst (nI 1) d_O_find_7 rfl ?_
  refine V_istore_5 d_O_find_8 rfl ?_
  exact lp _ 1 rfl (by omega) (Nat.le_refl _)
end
section
-- THE CLASS: small methods
/-- a without c -/
def anN (a c : Nat) : Nat := a ^^^ (a &&& c)
theorem nx_andn (a c : Nat) : nI a &&& (nI c ^^^ (-1)) = nI (anN a c) := by
  apply Int32.toBitVec_inj.1
  show BitVec.ofNat 32 a &&& (BitVec.ofNat 32 c ^^^ BitVec.allOnes 32) = BitVec.ofNat 32 (anN a c)
  apply BitVec.eq_of_getLsbD_eq
  intro i hi
  simp only [anN, BitVec.getLsbD_and, BitVec.getLsbD_xor, BitVec.getLsbD_ofNat, BitVec.getLsbD_allOnes, hi, decide_true, Bool.true_and, Nat.testBit_xor, Nat.testBit_and]
  cases a.testBit i <;> cases c.testBit i <;> rfl
theorem anN_lt {a c n : Nat} (h : a < 2 ^ n) : anN a c < 2 ^ n := Nat.xor_lt_two_pow h (Nat.lt_of_le_of_lt Nat.and_le_left h)
def nuF (u : Nat → Nat) (t : Nat) : Nat → Nat
  | 0 => 0
  | n + 1 => if u n = t then nuF u t n ||| 2 ^ n else nuF u t n
theorem nuF_lt {u : Nat → Nat} {t : Nat} : ∀ n, nuF u t n < 2 ^ n
  | 0 => by simp [nuF]
  | n + 1 => by
    have ih := nuF_lt (u := u) (t := t) n
    have p : (2 : Nat) ^ n < 2 ^ (n + 1) := Nat.pow_lt_pow_right (by decide) (by omega)
    simp only [nuF]
    split
    · exact Nat.or_lt_two_pow (by omega) p
    · omega
def nbF (lg : Nat → Nat) : Nat → Nat
  | 0 => 0
  | n + 1 => nbF lg n ||| lg n
def alF (lg : Nat → Nat) (cu mo : Nat) : Nat → Bool
  | 0 => true
  | n + 1 => alF lg cu mo n && decide (pc_ (anN (lg n) cu) ≤ mo)
theorem alF_f {lg : Nat → Nat} {cu mo i : Nat} (h : ¬ pc_ (anN (lg i) cu) ≤ mo) : ∀ k, alF lg cu mo (i + 1 + k) = false
  | 0 => by simp [alF, h]
  | k + 1 => by
    have := alF_f h k
    show (alF lg cu mo (i + 1 + k) && _) = false
    rw [this]; rfl
def sprF (bits set : Nat) : Nat → Nat × Nat
  | 0 => (0, 0)
  | n + 1 => if set.testBit n = true then ((sprF bits set n).1 ||| (bits / 2 ^ (sprF bits set n).2 &&& 1) * 2 ^ n, (sprF bits set n).2 + 1) else sprF bits set n
def gatF (nms set : Nat) : Nat → Nat × Nat
  | 0 => (0, 0)
  | n + 1 => if set.testBit n = true then ((gatF nms set n).1 ||| (nms / 2 ^ n &&& 1) * 2 ^ (gatF nms set n).2, (gatF nms set n).2 + 1) else gatF nms set n
theorem sprF_j {bits set : Nat} : ∀ n, (sprF bits set n).2 ≤ n
  | 0 => Nat.le_refl _
  | n + 1 => by
    have := sprF_j (bits := bits) (set := set) n
    simp only [sprF]
    split <;> simp <;> omega
theorem gatF_j {nms set : Nat} : ∀ n, (gatF nms set n).2 ≤ n
  | 0 => Nat.le_refl _
  | n + 1 => by
    have := gatF_j (nms := nms) (set := set) n
    simp only [gatF]
    split <;> simp <;> omega
set_option maxRecDepth 100000 in
set_option maxHeartbeats 4000000 in
theorem c_N_countUse0 (l : Launch) (D : hv_D) (h : hv_P) (nx : Nat) {b : Nat} {c ap z wk lk : Int32} (hb : h b = some (oN b c ap z wk lk)) (x : Int32) : hv_N l D M_N_countUse (hv_rm 0 0 0 0) [.ref b, .int (-1), .int x] h nx (hv_ans none (fun h' n' => h' = hv_up h b (oN b c ap (z + x) wk lk) ∧ n' = nx)) := by
  refine hv_N.of' [some (.ref b), some (.int (-1)), some (.int x)] (by decide +kernel) rfl rfl rfl ?_
  refine V_iload_n d_N_countUse_0 rfl ?_
  refine V_iconst (-1) d_N_countUse_1 rfl ?_
  refine V_icmp_ne 18 d_N_countUse_2 (by decide) (fun q => absurd rfl q) (fun _ => ?_)
  refine V_aload_n d_N_countUse_5 rfl ?_
  refine V_dup d_N_countUse_6 rfl ?_
  refine V_getfield d_N_countUse_7 fl_N_64 hb rfl ?_
  refine V_iload_n d_N_countUse_10 rfl ?_
  refine V_iadd d_N_countUse_11 ?_
  refine V_put (e' := oN b c ap (z + x) wk lk) d_N_countUse_12 fp_N_64 hb rfl rfl rfl rfl rfl ?_
  refine V_goto 28 d_N_countUse_15 (by decide) ?_
  exact V_return d_N_countUse_28 rfl ⟨rfl, rfl, rfl⟩

set_option maxRecDepth 100000 in
set_option maxHeartbeats 4000000 in
theorem c_N_countUse1 (l : Launch) (D : hv_D) (h : hv_P) (nx : Nat) {b : Nat} {c ap z wk lk : Int32} (hb : h b = some (oN b c ap z wk lk)) {k : Nat} {us : Nat → Int32} (hu : h (b + 42) = some (eI 20 us)) (hk : k < 20) (x : Int32) : hv_N l D M_N_countUse (hv_rm 0 0 0 0) [.ref b, .int (nI k), .int x] h nx (hv_ans none (fun h' n' => h' = hv_up h (b + 42) (eI 20 (va_up us k (us k + x))) ∧ n' = nx)) := by
  refine hv_N.of' [some (.ref b), some (.int (nI k)), some (.int x)] (by decide +kernel) rfl rfl rfl ?_
  refine V_iload_n d_N_countUse_0 rfl ?_
  refine V_iconst (-1) d_N_countUse_1 rfl ?_
  refine V_icmp_ne 18 d_N_countUse_2 (by decide) (fun _ => ?_) (fun q => absurd q (en_ne hk))
  refine V_aload_n d_N_countUse_18 rfl ?_
  refine V_getfield d_N_countUse_19 fl_N_16 hb rfl ?_
  refine V_iload_n d_N_countUse_22 rfl ?_
  refine V_dup2 d_N_countUse_23 rfl rfl ?_
  refine V_iaload d_N_countUse_24 hu ⟨rfl, hk, by decide⟩ ?_
  refine V_iload_n d_N_countUse_25 rfl ?_
  refine V_iadd d_N_countUse_26 ?_
  refine V_ist d_N_countUse_27 hu ⟨rfl, hk, by decide⟩ rfl ?_
  exact V_return d_N_countUse_28 rfl ⟨rfl, rfl, rfl⟩

set_option maxRecDepth 100000 in
set_option maxHeartbeats 4000000 in
theorem c_N_namesUsed (l : Launch) (D : hv_D) (h : hv_P) (nx : Nat) {b : Nat} {c ap z wk lk : Int32} (hb : h b = some (oN b c ap z wk lk)) {u : Nat → Nat} (hu : h (b + 42) = some (eN 20 u)) (hul : ∀ i, i < 20 → u i < 2 ^ 31) {t : Nat} (ht : t < 2 ^ 31) : hv_N l D M_N_namesUsed (hv_rm 0 0 0 0) [.ref b, .int (nI t)] h nx (hv_ans (some (.int (nI (nuF u t 20)))) (hv_same h nx)) := by
  have lp : ∀ (k i : Nat), k = 20 - i → i ≤ 20 → hv_V l D M_N_namesUsed (fun _ _ => True) (hv_rm 0 0 0 0) (hv_ans (some (.int (nI (nuF u t 20)))) (hv_same h nx)) 0 0 (h) nx 4 [some (.ref b), some (.int (nI t)), some (.int (nI (nuF u t i))), some (.int (nI i))] [] := by
    intro k
    induction k using Nat.strongRecOn with
    | ind k ih =>
      intro i hk hi
      refine V_iload_n d_N_namesUsed_4 rfl ?_
      refine V_bipush (nI 20) d_N_namesUsed_5 rfl ?_
      refine V_icmp_geN 32 d_N_namesUsed_7 (by decide) (by omega) (by decide) (fun ci => ?_) (fun ci => ?_)
      · refine V_iload_n d_N_namesUsed_32 rfl ?_
        exact V_ireturn d_N_namesUsed_33 rfl ⟨by rw [show i = 20 by omega], rfl, rfl⟩
      · refine V_aload_n d_N_namesUsed_10 rfl ?_
        refine V_getfield d_N_namesUsed_11 fl_N_16 hb rfl ?_
        refine V_iload_n d_N_namesUsed_14 rfl ?_
        refine V_iaload d_N_namesUsed_15 hu ⟨rfl, by omega, by decide⟩ ?_
        refine V_iload_n d_N_namesUsed_16 rfl ?_
        refine V_icmp_neN 26 d_N_namesUsed_17 (by decide) (hul i (by omega)) ht (fun cu => ?_) (fun cu => ?_)
        · rw [show nuF u t i = nuF u t (i + 1) by simp [nuF, cu]]
          refine V_iincN_3 1 d_N_namesUsed_26 rfl rfl ?_
          refine V_goto 4 d_N_namesUsed_29 (by decide) ?_
          exact ih (20 - (i + 1)) (by omega) (i + 1) rfl (by omega)
        · refine V_iload_n d_N_namesUsed_20 rfl ?_
          refine V_iconst (nI 1) d_N_namesUsed_21 rfl ?_
          refine V_iload_n d_N_namesUsed_22 rfl ?_
          refine V_ishlN d_N_namesUsed_23 (by omega) ?_
          refine V_iorN d_N_namesUsed_24 ?_
          rw [Nat.one_mul, show nuF u t i ||| 2 ^ i = nuF u t (i + 1) by simp [nuF, cu]]
          refine V_istore_2 d_N_namesUsed_25 rfl ?_
          refine V_iincN_3 1 d_N_namesUsed_26 rfl rfl ?_
          refine V_goto 4 d_N_namesUsed_29 (by decide) ?_
          exact ih (20 - (i + 1)) (by omega) (i + 1) rfl (by omega)
  refine hv_N.of' [some (.ref b), some (.int (nI t)), none, none] (by decide +kernel) rfl rfl rfl ?_
  refine V_iconst (nI 0) d_N_namesUsed_0 rfl ?_
  refine V_istore_2 d_N_namesUsed_1 rfl ?_
  refine V_iconst (nI 0) d_N_namesUsed_2 rfl ?_
  refine V_istore_3 d_N_namesUsed_3 rfl ?_
  exact lp _ 0 rfl (Nat.zero_le _)

set_option maxRecDepth 100000 in
set_option maxHeartbeats 4000000 in
theorem c_N_namesBetween (l : Launch) (D : hv_D) (h : hv_P) (nx : Nat) {b c : Nat} {ap z wk lk : Int32} (hb : h b = some (oN b (nI c) ap z wk lk)) {u : Nat → Nat} (hu : h (b + 42) = some (eN 20 u)) (hul : ∀ i, i < 20 → u i < 2 ^ 31) {pl lg : Nat → Nat} (hts : h (b + 1) = some (eQ 2 10 (fun i => some (b + 2 + 4 * i)))) (hT : ∀ i, i < 10 → h (b + 2 + 4 * i) = some (oT (b + 2 + 4 * i) (nI (pl i)) (nI (lg i)))) (hc : c ≤ 10) : hv_N l D M_N_namesBetweenTensors (hv_rm 1 23 0 0) [.ref b] h nx (hv_ans (some (.int (nI (nbF lg c &&& nuF u 2 20)))) (hv_same h nx)) := by
  have lp : ∀ (k i : Nat), k = c - i → i ≤ c → hv_V l D M_N_namesBetweenTensors (fun _ _ => True) (hv_rm 1 23 0 0) (hv_ans (some (.int (nI (nbF lg c &&& nuF u 2 20)))) (hv_same h nx)) 0 0 (h) nx 4 [some (.ref b), some (.int (nI (nbF lg i))), some (.int (nI i))] [] := by
    intro k
    induction k using Nat.strongRecOn with
    | ind k ih =>
      intro i hk hi
      refine V_iload_n d_N_namesBetweenTensors_4 rfl ?_
      refine V_aload_n d_N_namesBetweenTensors_5 rfl ?_
      refine V_getfield d_N_namesBetweenTensors_6 fl_N_53 hb rfl ?_
      refine V_icmp_geN 30 d_N_namesBetweenTensors_9 (by decide) (by omega) (by omega) (fun ci => ?_) (fun ci => ?_)
      · refine V_iload_n d_N_namesBetweenTensors_30 rfl ?_
        refine V_aload_n d_N_namesBetweenTensors_31 rfl ?_
        refine V_iconst (nI 2) d_N_namesBetweenTensors_32 rfl ?_
        refine V_callV1 d_N_namesBetweenTensors_33 ml_N_107 mB_N_namesUsed mi_N_namesUsed mv_N_namesUsed rfl hb (c_N_namesUsed l D _ _ hb hu hul (by decide)) rfl rfl rfl rfl rfl rfl rfl ?_
        rintro _ _ ⟨rfl, rfl⟩
        refine V_iandN d_N_namesBetweenTensors_36 ?_
        exact V_ireturn d_N_namesBetweenTensors_37 rfl ⟨by rw [show i = c by omega], rfl, rfl⟩
      · refine V_iload_n d_N_namesBetweenTensors_12 rfl ?_
        refine V_aload_n d_N_namesBetweenTensors_13 rfl ?_
        refine V_getfield d_N_namesBetweenTensors_14 fl_N_11 hb rfl ?_
        refine V_iload_n d_N_namesBetweenTensors_17 rfl ?_
        refine V_aaload d_N_namesBetweenTensors_18 hts rfl ⟨rfl, by omega, by decide⟩ rfl ?_
        refine V_getfield d_N_namesBetweenTensors_19 fl_N_177 (hT i (by omega)) rfl ?_
        refine V_iorN d_N_namesBetweenTensors_22 ?_
        refine V_istore_1 d_N_namesBetweenTensors_23 rfl ?_
        refine V_iincN_2 1 d_N_namesBetweenTensors_24 rfl rfl ?_
        refine V_goto 4 d_N_namesBetweenTensors_27 (by decide) ?_
        exact ih (c - (i + 1)) (by omega) (i + 1) rfl (by omega)
  refine hv_N.of' [some (.ref b), none, none] (by decide +kernel) rfl rfl rfl ?_
  refine V_iconst (nI 0) d_N_namesBetweenTensors_0 rfl ?_
  refine V_istore_1 d_N_namesBetweenTensors_1 rfl ?_
  refine V_iconst (nI 0) d_N_namesBetweenTensors_2 rfl ?_
  refine V_istore_2 d_N_namesBetweenTensors_3 rfl ?_
  exact lp _ 0 rfl (Nat.zero_le _)

set_option maxRecDepth 100000 in
set_option maxHeartbeats 4000000 in
theorem c_N_forget (l : Launch) (D : hv_D) (h : hv_P) (nx : Nat) {b : Nat} {c ap z wk lk : Int32} (hb : h b = some (oN b c ap z wk lk)) {cp : Nat → Int32} (hcp : h (b + 44) = some (eI 400 cp)) : hv_N l D M_N_forgetOrders (hv_rm 1 23 0 0) [.ref b] h nx (hv_ans none (fun h' n' => h' = hv_ov h [(b, oN b c ap z 0 (-1)), (b + 44, eI 400 (hv_fill cp 400 (-1)))] ∧ n' = nx)) := by
  refine hv_N.of' [some (.ref b)] (by decide +kernel) rfl rfl rfl ?_
  refine V_eqH (ob_2 hb hcp) ?_
  refine V_aload_n d_N_forgetOrders_0 rfl ?_
  refine V_iconst (0) d_N_forgetOrders_1 rfl ?_
  refine V_put (e' := oN b c ap z 0 lk) d_N_forgetOrders_2 fp_N_180 (og_0) rfl rfl rfl rfl (ou_0) ?_
  refine V_aload_n d_N_forgetOrders_5 rfl ?_
  refine V_iconst (-1) d_N_forgetOrders_6 rfl ?_
  refine V_put (e' := oN b c ap z 0 (-1)) d_N_forgetOrders_7 fp_N_184 (og_0) rfl rfl rfl rfl (ou_0) ?_
  refine V_aload_n d_N_forgetOrders_10 rfl ?_
  refine V_getfield d_N_forgetOrders_11 fl_N_23 (og_0) rfl ?_
  refine V_iconst (-1) d_N_forgetOrders_14 rfl ?_
  refine V_callS0 d_N_forgetOrders_15 ml_N_97 mB_JA_fill ms_JA_fill (c_fill l D _ _ (-1) (og_1 (by omega)) (by decide)) rfl rfl rfl rfl rfl rfl rfl ?_
  rintro _ _ ⟨rfl, rfl⟩
  rw [ou_1 (by omega)]
  exact V_return d_N_forgetOrders_18 rfl ⟨rfl, rfl, rfl⟩

set_option maxRecDepth 100000 in
set_option maxHeartbeats 4000000 in
theorem c_N_takeLegs (l : Launch) (D : hv_D) (h : hv_P) (nx : Nat) {b c : Nat} {ap z wk lk : Int32} (hb : h b = some (oN b (nI c) ap z wk lk)) {pl lg : Nat → Nat} (hts : h (b + 1) = some (eQ 2 10 (fun i => some (b + 2 + 4 * i)))) (hT : ∀ i, i < 10 → h (b + 2 + 4 * i) = some (oT (b + 2 + 4 * i) (nI (pl i)) (nI (lg i)))) {l0 : Nat → Nat} {cu : Nat} (hl0 : h (b + 43) = some (eN 10 l0)) (hc : c ≤ 10) : hv_N l D M_N_takeLegs (hv_rm 0 0 0 0) [.ref b, .int (nI cu)] h nx (hv_ans none (fun h' n' => h' = hv_ov h [(b + 43, eN 10 (hv_cp (fun j => anN (lg j) cu) l0 c))] ∧ n' = nx)) := by
  have lp : ∀ (k i : Nat), k = c - i → i ≤ c → hv_V l D M_N_takeLegs (fun _ _ => True) (hv_rm 0 0 0 0) (hv_ans none (fun h' n' => h' = hv_ov h [(b + 43, eN 10 (hv_cp (fun j => anN (lg j) cu) l0 c))] ∧ n' = nx)) 0 0 (hv_ov h [(b + 43, eN 10 (hv_cp (fun j => anN (lg j) cu) l0 i))]) nx 2 [some (.ref b), some (.int (nI cu)), some (.int (nI i))] [] := by
    intro k
    induction k using Nat.strongRecOn with
    | ind k ih =>
      intro i hk hi
      refine V_iload_n d_N_takeLegs_2 rfl ?_
      refine V_aload_n d_N_takeLegs_3 rfl ?_
      refine V_getfield d_N_takeLegs_4 fl_N_53 (oa_1 hb (by omega)) rfl ?_
      refine V_icmp_geN 35 d_N_takeLegs_7 (by decide) (by omega) (by omega) (fun ci => ?_) (fun ci => ?_)
      · exact V_return d_N_takeLegs_35 rfl ⟨rfl, by rw [show i = c by omega], rfl⟩
      · refine V_aload_n d_N_takeLegs_10 rfl ?_
        refine V_getfield d_N_takeLegs_11 fl_N_20 (oa_1 hb (by omega)) rfl ?_
        refine V_iload_n d_N_takeLegs_14 rfl ?_
        refine V_aload_n d_N_takeLegs_15 rfl ?_
        refine V_getfield d_N_takeLegs_16 fl_N_11 (oa_1 hb (by omega)) rfl ?_
        refine V_iload_n d_N_takeLegs_19 rfl ?_
        refine V_aaload d_N_takeLegs_20 (oa_1 hts (by omega)) rfl ⟨rfl, by omega, by decide⟩ rfl ?_
        refine V_getfield d_N_takeLegs_21 fl_N_177 (oa_1 (hT i (by omega)) (by omega)) rfl ?_
        refine V_iload_n d_N_takeLegs_24 rfl ?_
        refine V_iconst (-1) d_N_takeLegs_25 rfl ?_
        refine V_ixor d_N_takeLegs_26 ?_
        refine V_iand d_N_takeLegs_27 ?_
        refine V_eqI (nx_andn (lg i) cu) ?_
        refine V_istN d_N_takeLegs_28 og_0 ⟨rfl, by omega, by decide⟩ (h' := hv_ov h [(b + 43, eN 10 (hv_cp (fun j => anN (lg j) cu) l0 (i + 1)))]) (by rw [← hv_cp_s]; exact ou_0) ?_
        refine V_iincN_2 1 d_N_takeLegs_29 rfl rfl ?_
        refine V_goto 2 d_N_takeLegs_32 (by decide) ?_
        exact ih (c - (i + 1)) (by omega) (i + 1) rfl (by omega)
  refine hv_N.of' [some (.ref b), some (.int (nI cu)), none] (by decide +kernel) rfl rfl rfl ?_
  refine V_eqH (ob_1 hl0) ?_
  refine V_iconst (nI 0) d_N_takeLegs_0 rfl ?_
  refine V_istore_2 d_N_takeLegs_1 rfl ?_
  have J := lp _ 0 rfl (Nat.zero_le _)
  rw [hv_cp_0] at J
  exact J

set_option maxRecDepth 100000 in
set_option maxHeartbeats 4000000 in
theorem c_N_areLow (l : Launch) (D : hv_D) (h : hv_P) (nx : Nat) {b c : Nat} {ap z wk lk : Int32} (hb : h b = some (oN b (nI c) ap z wk lk)) {pl lg : Nat → Nat} (hts : h (b + 1) = some (eQ 2 10 (fun i => some (b + 2 + 4 * i)))) (hT : ∀ i, i < 10 → h (b + 2 + 4 * i) = some (oT (b + 2 + 4 * i) (nI (pl i)) (nI (lg i)))) {cu mo : Nat} (hc : c ≤ 10) (hmo : mo < 2 ^ 31) (hlg : ∀ i, i < c → lg i < 2 ^ 20) : hv_N l D M_N_areTensorsLow (hv_rm 1 20 0 0) [.ref b, .int (nI cu), .int (nI mo)] h nx (hv_ans (some (.int (bZ (alF lg cu mo c)))) (hv_same h nx)) := by
  have lp : ∀ (k i : Nat), k = c - i → i ≤ c → alF lg cu mo i = true → hv_V l D M_N_areTensorsLow (fun _ _ => True) (hv_rm 1 20 0 0) (hv_ans (some (.int (bZ (alF lg cu mo c)))) (hv_same h nx)) 0 0 (h) nx 2 [some (.ref b), some (.int (nI cu)), some (.int (nI mo)), some (.int (nI i))] [] := by
    intro k
    induction k using Nat.strongRecOn with
    | ind k ih =>
      intro i hk hi hal
      refine V_iload_n d_N_areTensorsLow_2 rfl ?_
      refine V_aload_n d_N_areTensorsLow_3 rfl ?_
      refine V_getfield d_N_areTensorsLow_4 fl_N_53 hb rfl ?_
      refine V_icmp_geN 38 d_N_areTensorsLow_7 (by decide) (by omega) (by omega) (fun ci => ?_) (fun ci => ?_)
      · refine V_iconst (1) d_N_areTensorsLow_38 rfl ?_
        exact V_zreturn d_N_areTensorsLow_39 rfl rfl ⟨by rw [← show i = c by omega, hal]; rfl, rfl, rfl⟩
      · have hx := anN_lt (c := cu) (hlg i (by omega))
        refine V_aload_n d_N_areTensorsLow_10 rfl ?_
        refine V_getfield d_N_areTensorsLow_11 fl_N_11 hb rfl ?_
        refine V_iload_n d_N_areTensorsLow_14 rfl ?_
        refine V_aaload d_N_areTensorsLow_15 hts rfl ⟨rfl, by omega, by decide⟩ rfl ?_
        refine V_getfield d_N_areTensorsLow_16 fl_N_177 (hT i (by omega)) rfl ?_
        refine V_iload_n d_N_areTensorsLow_19 rfl ?_
        refine V_iconst (-1) d_N_areTensorsLow_20 rfl ?_
        refine V_ixor d_N_areTensorsLow_21 ?_
        refine V_iand d_N_areTensorsLow_22 ?_
        refine V_eqI (nx_andn (lg i) cu) ?_
        refine V_callS1 d_N_areTensorsLow_23 ml_N_172 mB_JI_bitCount ms_JI_bitCount (c_bitCount l D _ _ (Nat.lt_of_lt_of_le hx (by decide))) rfl rfl rfl rfl rfl rfl rfl ?_
        rintro _ _ ⟨rfl, rfl⟩
        refine V_iload_n d_N_areTensorsLow_26 rfl ?_
        refine V_icmp_leN 32 d_N_areTensorsLow_27 (by decide) (by have := pc_le hx; omega) hmo (fun cm => ?_) (fun cm => ?_)
        · refine V_iincN_3 1 d_N_areTensorsLow_32 rfl rfl ?_
          refine V_goto 2 d_N_areTensorsLow_35 (by decide) ?_
          exact ih (c - (i + 1)) (by omega) (i + 1) rfl (by omega) (by simp [alF, hal, cm])
        · refine V_iconst (0) d_N_areTensorsLow_30 rfl ?_
          exact V_zreturn d_N_areTensorsLow_31 rfl rfl ⟨by have e := alF_f (mo := mo) (lg := lg) (cu := cu) (i := i) (by omega) (c - (i + 1)); rw [show i + 1 + (c - (i + 1)) = c by omega] at e; rw [e]; rfl, rfl, rfl⟩
  refine hv_N.of' [some (.ref b), some (.int (nI cu)), some (.int (nI mo)), none] (by decide +kernel) rfl rfl rfl ?_
  refine V_iconst (nI 0) d_N_areTensorsLow_0 rfl ?_
  refine V_istore_3 d_N_areTensorsLow_1 rfl ?_
  exact lp _ 0 rfl (Nat.zero_le _) rfl

set_option maxRecDepth 100000 in
set_option maxHeartbeats 4000000 in
theorem c_N_spread (l : Launch) (D : hv_D) (h : hv_P) (nx : Nat) {bits set : Nat} (hx : bits < 2 ^ 31) (hs : set < 2 ^ 31) : hv_N l D M_N_spread (hv_rm 1 21 0 0) [.int (nI bits), .int (nI set)] h nx (hv_ans (some (.int (nI (sprF bits set 20).1))) (hv_same h nx)) := by
  have lp : ∀ (k i : Nat), k = 20 - i → i ≤ 20 → hv_V l D M_N_spread (fun _ _ => True) (hv_rm 1 21 0 0) (hv_ans (some (.int (nI (sprF bits set 20).1))) (hv_same h nx)) 0 0 (h) nx 7 [some (.int (nI bits)), some (.int (nI set)), some (.int (nI (sprF bits set i).1)), some (.int (nI (sprF bits set i).2)), some (.int (nI i))] [] := by
    intro k
    induction k using Nat.strongRecOn with
    | ind k ih =>
      intro i hk hi
      refine V_iload d_N_spread_7 rfl ?_
      refine V_bipush (nI 20) d_N_spread_9 rfl ?_
      refine V_icmp_geN 43 d_N_spread_11 (by decide) (by omega) (by decide) (fun ci => ?_) (fun ci => ?_)
      · refine V_iload_n d_N_spread_43 rfl ?_
        exact V_ireturn d_N_spread_44 rfl ⟨by rw [show i = 20 by omega], rfl, rfl⟩
      · cases hb : set.testBit i
        · refine V_iload d_N_spread_14 rfl ?_
          refine V_iload_n d_N_spread_16 rfl ?_
          refine V_callS1 d_N_spread_17 ml_N_195 mB_N_isIn ms_N_isIn (c_N_isIn l D _ _ hs (by omega)) rfl rfl rfl rfl rfl rfl rfl ?_
          rintro _ _ ⟨rfl, rfl⟩
          refine V_if_eq 37 d_N_spread_20 (by decide) (fun _ => ?_) (fun q => absurd (by rw [hb]; rfl) q)
          refine V_iincN_4 1 d_N_spread_37 rfl rfl ?_
          refine V_goto 7 d_N_spread_40 (by decide) ?_
          have e1 : sprF bits set (i + 1) = sprF bits set i := by simp [sprF, hb]
          have J := ih (20 - (i + 1)) (by omega) (i + 1) rfl (by omega)
          rw [e1] at J
          exact J
        · refine V_iload d_N_spread_14 rfl ?_
          refine V_iload_n d_N_spread_16 rfl ?_
          refine V_callS1 d_N_spread_17 ml_N_195 mB_N_isIn ms_N_isIn (c_N_isIn l D _ _ hs (by omega)) rfl rfl rfl rfl rfl rfl rfl ?_
          rintro _ _ ⟨rfl, rfl⟩
          refine V_if_eq 37 d_N_spread_20 (by decide) (fun q => absurd q (by rw [hb]; decide)) (fun _ => ?_)
          refine V_iload_n d_N_spread_23 rfl ?_
          refine V_iload_n d_N_spread_24 rfl ?_
          refine V_iload_n d_N_spread_25 rfl ?_
          refine V_ishrN d_N_spread_26 hx (by have := sprF_j (bits := bits) (set := set) i; omega) ?_
          refine V_iconst (nI 1) d_N_spread_27 rfl ?_
          refine V_iandN d_N_spread_28 ?_
          refine V_iload d_N_spread_29 rfl ?_
          refine V_ishlN d_N_spread_31 (by omega) ?_
          refine V_iorN d_N_spread_32 ?_
          refine V_istore_2 d_N_spread_33 rfl ?_
          refine V_iincN_3 1 d_N_spread_34 rfl rfl ?_
          refine V_iincN_4 1 d_N_spread_37 rfl rfl ?_
          refine V_goto 7 d_N_spread_40 (by decide) ?_
          have e1 : sprF bits set (i + 1) = ((sprF bits set i).1 ||| (bits / 2 ^ (sprF bits set i).2 &&& 1) * 2 ^ i, (sprF bits set i).2 + 1) := by simp [sprF, hb]
          have J := ih (20 - (i + 1)) (by omega) (i + 1) rfl (by omega)
          rw [e1] at J
          exact J
  refine hv_N.of' [some (.int (nI bits)), some (.int (nI set)), none, none, none] (by decide +kernel) rfl rfl rfl ?_
  refine V_iconst (nI 0) d_N_spread_0 rfl ?_
  refine V_istore_2 d_N_spread_1 rfl ?_
  refine V_iconst (nI 0) d_N_spread_2 rfl ?_
  refine V_istore_3 d_N_spread_3 rfl ?_
  refine V_iconst (nI 0) d_N_spread_4 rfl ?_
  refine V_istore_4 d_N_spread_5 rfl ?_
  exact lp _ 0 rfl (Nat.zero_le _)

set_option maxRecDepth 100000 in
set_option maxHeartbeats 4000000 in
theorem c_N_gather (l : Launch) (D : hv_D) (h : hv_P) (nx : Nat) {nms set : Nat} (hx : nms < 2 ^ 31) (hs : set < 2 ^ 31) : hv_N l D M_N_gather (hv_rm 1 21 0 0) [.int (nI nms), .int (nI set)] h nx (hv_ans (some (.int (nI (gatF nms set 20).1))) (hv_same h nx)) := by
  have lp : ∀ (k i : Nat), k = 20 - i → i ≤ 20 → hv_V l D M_N_gather (fun _ _ => True) (hv_rm 1 21 0 0) (hv_ans (some (.int (nI (gatF nms set 20).1))) (hv_same h nx)) 0 0 (h) nx 7 [some (.int (nI nms)), some (.int (nI set)), some (.int (nI (gatF nms set i).1)), some (.int (nI (gatF nms set i).2)), some (.int (nI i))] [] := by
    intro k
    induction k using Nat.strongRecOn with
    | ind k ih =>
      intro i hk hi
      refine V_iload d_N_gather_7 rfl ?_
      refine V_bipush (nI 20) d_N_gather_9 rfl ?_
      refine V_icmp_geN 43 d_N_gather_11 (by decide) (by omega) (by decide) (fun ci => ?_) (fun ci => ?_)
      · refine V_iload_n d_N_gather_43 rfl ?_
        exact V_ireturn d_N_gather_44 rfl ⟨by rw [show i = 20 by omega], rfl, rfl⟩
      · cases hb : set.testBit i
        · refine V_iload d_N_gather_14 rfl ?_
          refine V_iload_n d_N_gather_16 rfl ?_
          refine V_callS1 d_N_gather_17 ml_N_195 mB_N_isIn ms_N_isIn (c_N_isIn l D _ _ hs (by omega)) rfl rfl rfl rfl rfl rfl rfl ?_
          rintro _ _ ⟨rfl, rfl⟩
          refine V_if_eq 37 d_N_gather_20 (by decide) (fun _ => ?_) (fun q => absurd (by rw [hb]; rfl) q)
          refine V_iincN_4 1 d_N_gather_37 rfl rfl ?_
          refine V_goto 7 d_N_gather_40 (by decide) ?_
          have e1 : gatF nms set (i + 1) = gatF nms set i := by simp [gatF, hb]
          have J := ih (20 - (i + 1)) (by omega) (i + 1) rfl (by omega)
          rw [e1] at J
          exact J
        · refine V_iload d_N_gather_14 rfl ?_
          refine V_iload_n d_N_gather_16 rfl ?_
          refine V_callS1 d_N_gather_17 ml_N_195 mB_N_isIn ms_N_isIn (c_N_isIn l D _ _ hs (by omega)) rfl rfl rfl rfl rfl rfl rfl ?_
          rintro _ _ ⟨rfl, rfl⟩
          refine V_if_eq 37 d_N_gather_20 (by decide) (fun q => absurd q (by rw [hb]; decide)) (fun _ => ?_)
          refine V_iload_n d_N_gather_23 rfl ?_
          refine V_iload_n d_N_gather_24 rfl ?_
          refine V_iload d_N_gather_25 rfl ?_
          refine V_ishrN d_N_gather_27 hx (by omega) ?_
          refine V_iconst (nI 1) d_N_gather_28 rfl ?_
          refine V_iandN d_N_gather_29 ?_
          refine V_iload_n d_N_gather_30 rfl ?_
          refine V_ishlN d_N_gather_31 (by have := gatF_j (nms := nms) (set := set) i; omega) ?_
          refine V_iorN d_N_gather_32 ?_
          refine V_istore_2 d_N_gather_33 rfl ?_
          refine V_iincN_3 1 d_N_gather_34 rfl rfl ?_
          refine V_iincN_4 1 d_N_gather_37 rfl rfl ?_
          refine V_goto 7 d_N_gather_40 (by decide) ?_
          have e1 : gatF nms set (i + 1) = ((gatF nms set i).1 ||| (nms / 2 ^ i &&& 1) * 2 ^ (gatF nms set i).2, (gatF nms set i).2 + 1) := by simp [gatF, hb]
          have J := ih (20 - (i + 1)) (by omega) (i + 1) rfl (by omega)
          rw [e1] at J
          exact J
  refine hv_N.of' [some (.int (nI nms)), some (.int (nI set)), none, none, none] (by decide +kernel) rfl rfl rfl ?_
  refine V_iconst (nI 0) d_N_gather_0 rfl ?_
  refine V_istore_2 d_N_gather_1 rfl ?_
  refine V_iconst (nI 0) d_N_gather_2 rfl ?_
  refine V_istore_3 d_N_gather_3 rfl ?_
  refine V_iconst (nI 0) d_N_gather_4 rfl ?_
  refine V_istore_4 d_N_gather_5 rfl ?_
  exact lp _ 0 rfl (Nat.zero_le _)
end
section
-- THE ORDER OF LEAST COST, as a table of true costs
def LGn (l1 : Nat → Nat) (S : Nat) : Nat → Nat
  | 0 => 0
  | t + 1 => LGn l1 S t ^^^ (if S.testBit t = true then l1 t else 0)
abbrev LG (l1 : Nat → Nat) (S : Nat) : Nat := LGn l1 S 10
theorem xor4 (a b c d : Nat) : (a ^^^ b) ^^^ (c ^^^ d) = (a ^^^ c) ^^^ (b ^^^ d) := by
  rw [Nat.xor_assoc, Nat.xor_assoc, ← Nat.xor_assoc b c d, Nat.xor_comm b c, Nat.xor_assoc c b d]
theorem LGn_xor (l1 : Nat → Nat) (A B : Nat) : ∀ n, LGn l1 (A ^^^ B) n = LGn l1 A n ^^^ LGn l1 B n
  | 0 => by simp [LGn]
  | n + 1 => by
    simp only [LGn, LGn_xor l1 A B n, Nat.testBit_xor]
    rw [xor4]
    congr 1
    cases A.testBit n <;> cases B.testBit n <;> simp
theorem LGn_0 (l1 : Nat → Nat) : ∀ n, LGn l1 0 n = 0
  | 0 => rfl
  | n + 1 => by simp [LGn, LGn_0 l1 n]
theorem LGn_one (l1 : Nat → Nat) (t : Nat) : ∀ n, LGn l1 (2 ^ t) n = if t < n then l1 t else 0
  | 0 => rfl
  | n + 1 => by
    simp only [LGn, LGn_one l1 t n, Nat.testBit_two_pow]
    by_cases c : t = n
    · subst c; simp
    · by_cases d : t < n
      · simp [d, c, show t < n + 1 by omega]
      · simp [d, c, show ¬ t < n + 1 by omega]
theorem LG_step {l1 : Nat → Nat} {s : Nat} (h : s < 1024) (h0 : s ≠ 0) : LG l1 s = LG l1 (s &&& (s - 1)) ^^^ l1 (tzf 10 s) := by
  obtain ⟨-, z2, z3, z4, -, -⟩ := tz_all s h h0
  rw [z3] at z4
  have e : s = (s &&& (s - 1)) ^^^ 2 ^ tzf 10 s := by rw [← z4, ← Nat.xor_assoc, Nat.xor_comm (s &&& (s - 1)) s, Nat.xor_assoc, Nat.xor_self, Nat.xor_zero]
  conv => lhs; rw [e]
  rw [LG, LGn_xor, LGn_one, if_pos z2]
theorem LGn_lt {l1 : Nat → Nat} {S c : Nat} (hl : ∀ t, t < c → l1 t < 2 ^ 20) (hS : S < 2 ^ c) : ∀ n, LGn l1 S n < 2 ^ 20
  | 0 => Nat.two_pow_pos 20
  | n + 1 => by
    simp only [LGn]
    refine Nat.xor_lt_two_pow (LGn_lt hl hS n) ?_
    split
    · rename_i q
      refine hl n ?_
      rcases Nat.lt_or_ge n c with z | z
      · exact z
      · rw [Nat.testBit_lt_two_pow (Nat.lt_of_lt_of_le hS (Nat.pow_le_pow_right (by decide) z))] at q
        cases q
    · exact Nat.two_pow_pos 20
/-- a part x of the rest r of s: the two parts of s -/
theorem part_facts {s x : Nat} (h : s < 1024) (h0 : s ≠ 0) (hx : x &&& (s &&& (s - 1)) = x) (hlt : x < s &&& (s - 1)) :
    (2 ^ tzf 10 s ||| x) ^^^ ((s &&& (s - 1)) ^^^ x) = s ∧ (2 ^ tzf 10 s ||| x) &&& s = 2 ^ tzf 10 s ||| x ∧ 0 < 2 ^ tzf 10 s ||| x ∧ 2 ^ tzf 10 s ||| x < s ∧ 0 < (s &&& (s - 1)) ^^^ x ∧ (s &&& (s - 1)) ^^^ x < s ∧ s ^^^ (2 ^ tzf 10 s ||| x) = (s &&& (s - 1)) ^^^ x := by
  obtain ⟨-, z2, z3, z4, z5, z6⟩ := tz_all s h h0
  rw [z3] at z4
  generalize s &&& (s - 1) = r at *
  generalize hp : 2 ^ tzf 10 s = p at *
  have dis : ∀ i, ¬ (p.testBit i = true ∧ r.testBit i = true) := by
    intro i hi
    have e1 : (s ^^^ r).testBit i = p.testBit i := by rw [z4]
    rw [← z3, Nat.testBit_xor, Nat.testBit_or] at e1
    rw [hi.1, hi.2] at e1
    cases e1
  have xr := sub_add hx
  have ox : p ||| x = p + x := by
    refine or_add p p x Nat.lt_two_pow_self ?_
    apply Nat.eq_of_testBit_eq
    intro i
    have d := dis i
    have b := sub_bits hx i
    simp only [Nat.testBit_and, Nat.zero_testBit]
    cases h1 : p.testBit i <;> cases h2 : x.testBit i <;> simp_all
  have os : p ||| r = p + r := by
    refine or_add p p r Nat.lt_two_pow_self ?_
    apply Nat.eq_of_testBit_eq
    intro i
    have d := dis i
    simp only [Nat.testBit_and, Nat.zero_testBit]
    cases h1 : p.testBit i <;> cases h2 : r.testBit i <;> simp_all
  have e1 : (p ||| x) ^^^ (r ^^^ x) = s := by
    rw [← z3]
    apply Nat.eq_of_testBit_eq
    intro i
    have d := dis i
    have b := sub_bits hx i
    simp only [Nat.testBit_xor, Nat.testBit_or]
    cases h1 : p.testBit i <;> cases h2 : x.testBit i <;> cases h3 : r.testBit i <;> simp_all
  have pp : 0 < p := by rw [← hp]; exact Nat.two_pow_pos _
  refine ⟨e1, ?_, by omega, by omega, by omega, by omega, ?_⟩
  · rw [← z3]
    refine sub_of_bits (fun i hi => ?_)
    have b := sub_bits hx i
    simp only [Nat.testBit_or] at hi ⊢
    cases h1 : p.testBit i <;> cases h2 : x.testBit i <;> simp_all
  · rw [← e1, Nat.xor_comm (p ||| x) (r ^^^ x), Nat.xor_assoc, Nat.xor_self, Nat.xor_zero]
/-- a part's value: what both cost, and the join -/
def vx (lg co : Nat → Nat) (ls r x : Nat) : Nat := co (ls ||| x) + co (r ^^^ x) + 2 ^ pc_ (lg (ls ||| x) ||| lg (r ^^^ x))
theorem ptF_s (lg co : Nat → Nat) (ls r : Nat) (st : Nat × Nat) (x : Nat) : ptF lg co ls r st (x + 1) = if x &&& r = x then (if vx lg co ls r x < (ptF lg co ls r st x).1 then (vx lg co ls r x, ls ||| x) else ptF lg co ls r st x) else ptF lg co ls r st x := rfl
theorem ptF_congr {lg co lg' co' : Nat → Nat} {ls r : Nat} {st : Nat × Nat} : ∀ X, (∀ x, x < X → x &&& r = x → vx lg co ls r x = vx lg' co' ls r x) → ptF lg co ls r st X = ptF lg' co' ls r st X
  | 0, _ => rfl
  | X + 1, h => by
    have ih := ptF_congr (st := st) X (fun x hx => h x (by omega))
    rw [ptF_s, ptF_s, ih]
    split
    · rename_i q
      rw [h X (by omega) q]
    · rfl
/-- what came out: a part's value, or nothing was less -/
theorem ptF_of {lg co : Nat → Nat} {ls r B f : Nat} : ∀ X, (∃ x, x < X ∧ x &&& r = x ∧ ptF lg co ls r (B, f) X = (vx lg co ls r x, ls ||| x) ∧ vx lg co ls r x < B) ∨ ptF lg co ls r (B, f) X = (B, f)
  | 0 => Or.inr rfl
  | X + 1 => by
    have ih := ptF_of (lg := lg) (co := co) (ls := ls) (r := r) (B := B) (f := f) X
    rw [ptF_s]
    split
    · rename_i q
      split
      · rename_i c
        exact Or.inl ⟨X, by omega, q, rfl, Nat.lt_of_lt_of_le c (ptF_le X)⟩
      · rcases ih with ⟨x, h1, h2, h3⟩ | h
        · exact Or.inl ⟨x, by omega, h2, h3⟩
        · exact Or.inr h
    · rcases ih with ⟨x, h1, h2, h3⟩ | h
      · exact Or.inl ⟨x, by omega, h2, h3⟩
      · exact Or.inr h
theorem ptF_low {lg co : Nat → Nat} {ls r B f : Nat} : ∀ X x, x < X → x &&& r = x → (ptF lg co ls r (B, f) X).1 ≤ vx lg co ls r x
  | 0, x, h, _ => by omega
  | X + 1, x, h, q => by
    rw [ptF_s]
    by_cases e : x = X
    · subst e
      rw [if_pos q]
      split
      · exact Nat.le_refl _
      · omega
    · have ih := ptF_low (lg := lg) (co := co) (ls := ls) (B := B) (f := f) X x (by omega) q
      split
      · split
        · show vx _ _ _ _ _ ≤ _; omega
        · exact ih
      · exact ih
abbrev gt2 : Type := (Nat → Nat) × (Nat → Nat)
def trS (l1 : Nat → Nat) (st : gt2) (s : Nat) : gt2 :=
  if s &&& (s - 1) = 0 then (va_up st.1 s 0, va_up st.2 s 0)
  else (va_up st.1 s (ptF (LG l1) st.1 (2 ^ tzf 10 s) (s &&& (s - 1)) (2 ^ 30, 0) (s &&& (s - 1))).1, va_up st.2 s (ptF (LG l1) st.1 (2 ^ tzf 10 s) (s &&& (s - 1)) (2 ^ 30, 0) (s &&& (s - 1))).2)
def trF (l1 : Nat → Nat) : Nat → gt2
  | 0 => (fun _ => 0, fun _ => 0)
  | s + 1 => if s = 0 then (fun _ => 0, fun _ => 0) else trS l1 (trF l1 s) s
/-- the true cost of a set, and its first part -/
def CO (l1 : Nat → Nat) (s : Nat) : Nat := (trF l1 (s + 1)).1 s
def FI (l1 : Nat → Nat) (s : Nat) : Nat := (trF l1 (s + 1)).2 s
theorem trF_keep {l1 : Nat → Nat} {s : Nat} : ∀ k, (trF l1 (s + 1 + k)).1 s = CO l1 s ∧ (trF l1 (s + 1 + k)).2 s = FI l1 s
  | 0 => ⟨rfl, rfl⟩
  | k + 1 => by
    have ih := trF_keep (l1 := l1) (s := s) k
    have e : trF l1 (s + 1 + (k + 1)) = trS l1 (trF l1 (s + 1 + k)) (s + 1 + k) := by show (if s + 1 + k = 0 then _ else _) = _; rw [if_neg (by omega)]; rfl
    rw [e]
    unfold trS
    split <;> simp only [va_up, if_neg (show ¬ s = s + 1 + k by omega)] <;> exact ih
theorem trF_at {l1 : Nat → Nat} {s n : Nat} (h : s < n) : (trF l1 n).1 s = CO l1 s ∧ (trF l1 n).2 s = FI l1 s := by
  have := trF_keep (l1 := l1) (s := s) (n - (s + 1))
  rw [show s + 1 + (n - (s + 1)) = n by omega] at this
  exact this
theorem CO_one {l1 : Nat → Nat} {s : Nat} (h0 : s ≠ 0) (h : s &&& (s - 1) = 0) : CO l1 s = 0 ∧ FI l1 s = 0 := by
  have e : trF l1 (s + 1) = trS l1 (trF l1 s) s := by show (if s = 0 then _ else _) = _; rw [if_neg h0]
  unfold CO FI
  rw [e]
  unfold trS
  rw [if_pos h]
  simp [va_up]
theorem CO_eq {l1 : Nat → Nat} {s : Nat} (hs : s < 1024) (h0 : s ≠ 0) (h : ¬ s &&& (s - 1) = 0) : (CO l1 s, FI l1 s) = ptF (LG l1) (CO l1) (2 ^ tzf 10 s) (s &&& (s - 1)) (2 ^ 30, 0) (s &&& (s - 1)) := by
  have e : trF l1 (s + 1) = trS l1 (trF l1 s) s := by show (if s = 0 then _ else _) = _; rw [if_neg h0]
  have e2 : ptF (LG l1) (trF l1 s).1 (2 ^ tzf 10 s) (s &&& (s - 1)) (2 ^ 30, 0) (s &&& (s - 1)) = ptF (LG l1) (CO l1) (2 ^ tzf 10 s) (s &&& (s - 1)) (2 ^ 30, 0) (s &&& (s - 1)) := by
    refine ptF_congr _ (fun x hx hq => ?_)
    obtain ⟨-, -, -, p4, -, p6, -⟩ := part_facts hs h0 hq hx
    unfold vx
    rw [(trF_at p4).1, (trF_at p6).1]
  have e3 : CO l1 s = (ptF (LG l1) (trF l1 s).1 (2 ^ tzf 10 s) (s &&& (s - 1)) (2 ^ 30, 0) (s &&& (s - 1))).1 := by
    unfold CO; rw [e]; unfold trS; rw [if_neg h]; simp [va_up]
  have e4 : FI l1 s = (ptF (LG l1) (trF l1 s).1 (2 ^ tzf 10 s) (s &&& (s - 1)) (2 ^ 30, 0) (s &&& (s - 1))).2 := by
    unfold FI; rw [e]; unfold trS; rw [if_neg h]; simp [va_up]
  rw [e3, e4, e2]
theorem CO_le {l1 : Nat → Nat} {c : Nat} (hl : ∀ t, t < c → l1 t < 2 ^ 20) (hc : c ≤ 10) : ∀ s, s ≠ 0 → s < 2 ^ c → CO l1 s ≤ pc_ s * 2 ^ 20 := by
  intro s
  induction s using Nat.strongRecOn with
  | ind s ih =>
    intro h0 hs
    have h10 : (2 : Nat) ^ c ≤ 2 ^ 10 := Nat.pow_le_pow_right (by decide) hc
    by_cases h : s &&& (s - 1) = 0
    · rw [(CO_one h0 h).1]; omega
    · have e := CO_eq (l1 := l1) (by omega) h0 h
      have low := ptF_low (lg := LG l1) (co := CO l1) (ls := 2 ^ tzf 10 s) (r := s &&& (s - 1)) (B := 2 ^ 30) (f := 0) (s &&& (s - 1)) 0 (by omega) (Nat.zero_and _)
      rw [← e] at low
      have low : CO l1 s ≤ vx (LG l1) (CO l1) (2 ^ tzf 10 s) (s &&& (s - 1)) 0 := low
      obtain ⟨p1, p2, p3, p4, p5, p6, p7⟩ := part_facts (s := s) (x := 0) (by omega) h0 (Nat.zero_and _) (by omega)
      unfold vx at low
      simp only [Nat.or_zero, Nat.xor_zero] at low p1 p2 p3 p4 p5 p6 p7
      have tt := tz_all s (by omega) h0
      have b1 := ih _ p4 (by omega) (by omega)
      have b2 := ih _ p6 (by omega) (by omega)
      have b3 : 2 ^ pc_ (LG l1 (2 ^ tzf 10 s) ||| LG l1 (s &&& (s - 1))) ≤ 1048576 := (two20 (Nat.or_lt_two_pow (LGn_lt hl (show 2 ^ tzf 10 s < 2 ^ c by omega) 10) (LGn_lt hl (show s &&& (s - 1) < 2 ^ c by omega) 10))).2
      have pcs := pc_part p2
      rw [p7] at pcs
      have pc1 : 1 ≤ pc_ (2 ^ tzf 10 s) := pc_pos _ (by omega) (by omega)
      have z : CO l1 (2 ^ tzf 10 s) = 0 := by
        refine (CO_one (by omega) ?_).1
        have : ∀ t, t < 10 → 2 ^ t &&& (2 ^ t - 1) = 0 := by decide
        exact this _ tt.2.1
      have : (pc_ (2 ^ tzf 10 s) + pc_ (s &&& (s - 1))) * 2 ^ 20 = pc_ s * 2 ^ 20 := by rw [pcs]
      omega
end
section
-- THE CLASS's TABLE against the true one
theorem vx_ge {l1 co : Nat → Nat} {s x : Nat} (h : s < 1024) (h0 : s ≠ 0) (hx : x &&& (s &&& (s - 1)) = x) (hlt : x < s &&& (s - 1)) : 2 ^ pc_ (LG l1 s) ≤ vx (LG l1) co (2 ^ tzf 10 s) (s &&& (s - 1)) x := by
  obtain ⟨p1, -⟩ := part_facts h h0 hx hlt
  have e : LG l1 s = LG l1 (2 ^ tzf 10 s ||| x) ^^^ LG l1 ((s &&& (s - 1)) ^^^ x) := by conv => lhs; rw [← p1]; rw [LG, LGn_xor]
  have m : pc_ (LG l1 s) ≤ pc_ (LG l1 (2 ^ tzf 10 s ||| x) ||| LG l1 ((s &&& (s - 1)) ^^^ x)) := by
    refine pc_n_mono (fun i hi => ?_) 32
    rw [e, Nat.testBit_xor] at hi
    rw [Nat.testBit_or]
    cases h1 : (LG l1 (2 ^ tzf 10 s ||| x)).testBit i <;> cases h2 : (LG l1 ((s &&& (s - 1)) ^^^ x)).testBit i <;> simp_all
  have := Nat.pow_le_pow_right (n := 2) (by decide) m
  have pJ := Nat.two_pow_pos (pc_ (LG l1 s))
  unfold vx
  omega
theorem CO_ge {l1 : Nat → Nat} {s c : Nat} (hl : ∀ t, t < c → l1 t < 2 ^ 20) (hc : c ≤ 10) (h : s < 2 ^ c) (h0 : s ≠ 0) (hn : ¬ s &&& (s - 1) = 0) : ∃ x, x < s &&& (s - 1) ∧ x &&& (s &&& (s - 1)) = x ∧ CO l1 s = vx (LG l1) (CO l1) (2 ^ tzf 10 s) (s &&& (s - 1)) x ∧ FI l1 s = 2 ^ tzf 10 s ||| x ∧ 2 ^ pc_ (LG l1 s) ≤ CO l1 s := by
  have h10 : (2 : Nat) ^ c ≤ 2 ^ 10 := Nat.pow_le_pow_right (by decide) hc
  have e := CO_eq (l1 := l1) (by omega) h0 hn
  have up := CO_le hl hc s h0 h
  have p32 : pc_ s ≤ 32 := pc_n_le s 32
  rcases ptF_of (lg := LG l1) (co := CO l1) (ls := 2 ^ tzf 10 s) (r := s &&& (s - 1)) (B := 2 ^ 30) (f := 0) (s &&& (s - 1)) with ⟨x, h1, h2, h3, h4⟩ | h3
  · rw [h3] at e
    have e1 : CO l1 s = vx (LG l1) (CO l1) (2 ^ tzf 10 s) (s &&& (s - 1)) x := congrArg Prod.fst e
    have e2 : FI l1 s = 2 ^ tzf 10 s ||| x := congrArg Prod.snd e
    exact ⟨x, h1, h2, e1, e2, by rw [e1]; exact vx_ge (by omega) h0 h2 h1⟩
  · rw [h3] at e
    have e1 : CO l1 s = 2 ^ 30 := congrArg Prod.fst e
    have : pc_ s * 2 ^ 20 < 2 ^ 30 := by
      have : s < 2 ^ 10 := by omega
      have := pc_n_lt this 22
      have h10' := pc_n_le s 10
      have : pc_ s ≤ 10 := by show pc_n s 32 ≤ 10; omega
      omega
    omega
/-- how the class's entry of s stands to the true one -/
def clR (l1 : Nat → Nat) (al bd : Nat) (st : gt3) (s : Nat) : Prop := st.1 s = LG l1 s ∧ ((st.2.1 s = CO l1 s ∧ CO l1 s ≤ bd ∧ (¬ s &&& (s - 1) = 0 → st.2.2 s = FI l1 s)) ∨ (st.2.1 s = bd + 1 ∧ (bd < CO l1 s ∨ (s ≠ al ∧ ¬ s &&& (s - 1) = 0 ∧ bd < 2 * 2 ^ pc_ (LG l1 s)))))
theorem part_val {l1 : Nat → Nat} {al bd c s x : Nat} {st : gt3} (hl : ∀ t, t < c → l1 t < 2 ^ 20) (hc : c ≤ 10) (h : s < 2 ^ c) (h0 : s ≠ 0) (hR : ∀ q, 1 ≤ q → q < s → clR l1 al bd st q) (lg : Nat → Nat) (hlg : ∀ q, 1 ≤ q → q < s → lg q = LG l1 q) (hx : x &&& (s &&& (s - 1)) = x) (hlt : x < s &&& (s - 1)) :
    (vx (LG l1) (CO l1) (2 ^ tzf 10 s) (s &&& (s - 1)) x ≤ bd → vx lg st.2.1 (2 ^ tzf 10 s) (s &&& (s - 1)) x = vx (LG l1) (CO l1) (2 ^ tzf 10 s) (s &&& (s - 1)) x) ∧
    (bd < vx (LG l1) (CO l1) (2 ^ tzf 10 s) (s &&& (s - 1)) x → bd < vx lg st.2.1 (2 ^ tzf 10 s) (s &&& (s - 1)) x) := by
  have h10 : (2 : Nat) ^ c ≤ 2 ^ 10 := Nat.pow_le_pow_right (by decide) hc
  obtain ⟨p1, p2, p3, p4, p5, p6, p7⟩ := part_facts (by omega) h0 hx hlt
  have rA := hR _ p3 p4
  have rB := hR _ p5 p6
  have gA := hlg _ p3 p4
  have gB := hlg _ p5 p6
  unfold vx
  rw [gA, gB]
  generalize 2 ^ tzf 10 s ||| x = A at *
  generalize (s &&& (s - 1)) ^^^ x = B at *
  have mA : 2 ^ pc_ (LG l1 A) ≤ 2 ^ pc_ (LG l1 A ||| LG l1 B) := Nat.pow_le_pow_right (by decide) (pc_n_mono (fun i hi => by rw [Nat.testBit_or, hi]; rfl) 32)
  have mB : 2 ^ pc_ (LG l1 B) ≤ 2 ^ pc_ (LG l1 A ||| LG l1 B) := Nat.pow_le_pow_right (by decide) (pc_n_mono (fun i hi => by rw [Nat.testBit_or, hi]; simp) 32)
  have pJ := Nat.two_pow_pos (pc_ (LG l1 A ||| LG l1 B))
  have good : ∀ q, 1 ≤ q → q < s → clR l1 al bd st q → CO l1 q + 2 ^ pc_ (LG l1 q) ≤ bd → st.2.1 q = CO l1 q := by
    intro q q1 q2 r hq
    have pq := Nat.two_pow_pos (pc_ (LG l1 q))
    rcases r.2 with z | ⟨-, z | ⟨-, z2, z3⟩⟩
    · exact z.1
    · omega
    · obtain ⟨-, -, -, -, -, g⟩ := CO_ge hl hc (show q < 2 ^ c by omega) (by omega) z2
      omega
  constructor
  · intro hb
    rw [good A p3 p4 rA (by omega), good B p5 p6 rB (by omega)]
  · intro hb
    rcases rA.2 with a | a
    · rcases rB.2 with b | b
      · rw [a.1, b.1]; exact hb
      · rw [b.1]; omega
    · rw [a.1]; omega
theorem fold_rel {lg co lg' co' : Nat → Nat} {ls r bd : Nat} : ∀ X, (∀ x, x < X → x &&& r = x → (vx lg' co' ls r x ≤ bd → vx lg co ls r x = vx lg' co' ls r x) ∧ (bd < vx lg' co' ls r x → bd < vx lg co ls r x)) → bd < 2 ^ 30 →
    ((ptF lg' co' ls r (2 ^ 30, 0) X).1 ≤ bd ∧ ptF lg co ls r (bd + 1, ls) X = ptF lg' co' ls r (2 ^ 30, 0) X) ∨ (bd < (ptF lg' co' ls r (2 ^ 30, 0) X).1 ∧ ptF lg co ls r (bd + 1, ls) X = (bd + 1, ls))
  | 0, _, hb => Or.inr ⟨hb, rfl⟩
  | X + 1, h, hb => by
    have ih := fold_rel X (fun x hx => h x (by omega)) hb
    rw [ptF_s, ptF_s]
    by_cases q : X &&& r = X
    · rw [if_pos q, if_pos q]
      obtain ⟨k1, k2⟩ := h X (by omega) q
      rcases ih with ⟨i1, i2⟩ | ⟨i1, i2⟩
      · rw [i2]
        by_cases c : vx lg' co' ls r X ≤ bd
        · rw [k1 c]
          split
          · exact Or.inl ⟨c, rfl⟩
          · exact Or.inl ⟨i1, rfl⟩
        · have := k2 (by omega)
          rw [if_neg (by omega), if_neg (by omega)]
          exact Or.inl ⟨i1, rfl⟩
      · rw [i2]
        by_cases c : vx lg' co' ls r X ≤ bd
        · have u1 : vx lg' co' ls r X < (ptF lg' co' ls r (2 ^ 30, 0) X).1 := by omega
          have u2 : vx lg co ls r X < (bd + 1, ls).1 := by show vx lg co ls r X < bd + 1; rw [k1 c]; omega
          rw [if_pos u1, if_pos u2, k1 c]
          exact Or.inl ⟨c, rfl⟩
        · have := k2 (by omega)
          have u2 : ¬ vx lg co ls r X < (bd + 1, ls).1 := by show ¬ vx lg co ls r X < bd + 1; omega
          rw [if_neg u2]
          refine Or.inr ⟨?_, rfl⟩
          split
          · show bd < vx _ _ _ _ _; omega
          · exact i1
    · rw [if_neg q, if_neg q]
      exact ih
theorem cl_all {l1 : Nat → Nat} {al bd c : Nat} {st0 : gt3} (hl : ∀ t, t < c → l1 t < 2 ^ 20) (hc : c ≤ 10) (hal : al = 2 ^ c - 1) (hbd : bd < 2 ^ 30) (hz : st0.1 0 = 0) : ∀ n, n ≤ al + 1 → (fdF l1 al bd st0 n).1 0 = 0 ∧ ∀ q, 1 ≤ q → q < n → clR l1 al bd (fdF l1 al bd st0 n) q
  | 0, _ => ⟨hz, fun q h1 h2 => by omega⟩
  | s + 1, hs => by
    have h10 : (2 : Nat) ^ c ≤ 2 ^ 10 := Nat.pow_le_pow_right (by decide) hc
    have hp := Nat.two_pow_pos c
    obtain ⟨ih0, ih⟩ := cl_all hl hc hal hbd hz s (by omega)
    by_cases h0 : s = 0
    · subst h0
      exact ⟨hz, fun q h1 h2 => by omega⟩
    · have e : fdF l1 al bd st0 (s + 1) = fdS l1 al bd (fdF l1 al bd st0 s) s := by show (if s = 0 then _ else _) = _; rw [if_neg h0]
      rw [e]
      generalize fdF l1 al bd st0 s = st at ih ih0 ⊢
      have hs1 : s < 1024 := by omega
      obtain ⟨z1, z2, z3, z4, z5, z6⟩ := tz_all s hs1 h0
      have hr : st.1 (s &&& (s - 1)) = LG l1 (s &&& (s - 1)) := by
        rcases Nat.eq_zero_or_pos (s &&& (s - 1)) with q | q
        · rw [q, ih0]; exact (LGn_0 l1 10).symm
        · exact (ih _ q z5).1
      have hx : st.1 (s &&& (s - 1)) ^^^ l1 (tzf 10 s) = LG l1 s := by rw [hr, ← LG_step hs1 h0]
      have keep : ∀ (co fi : Nat → Nat), (∀ q, q ≠ s → co q = st.2.1 q) → (∀ q, q ≠ s → fi q = st.2.2 q) → clR l1 al bd (va_up st.1 s (LG l1 s), co, fi) s → (va_up st.1 s (LG l1 s)) 0 = 0 ∧ ∀ q, 1 ≤ q → q < s + 1 → clR l1 al bd (va_up st.1 s (LG l1 s), co, fi) q := by
        intro co fi h1 h2 h3
        refine ⟨by simp only [va_up]; rw [if_neg (by omega)]; exact ih0, fun q q1 q2 => ?_⟩
        by_cases c1 : q = s
        · rw [c1]; exact h3
        · have := ih q q1 (by omega)
          unfold clR at this ⊢
          simp only [va_up, if_neg c1, h1 q c1, h2 q c1]
          exact this
      unfold fdS
      rw [hx]
      split
      · rename_i c1
        refine keep _ _ (fun q hq => by simp [va_up, hq]) (fun q hq => rfl) ?_
        refine ⟨by simp [va_up], Or.inl ⟨?_, ?_, fun z => absurd c1 z⟩⟩
        · simp [va_up, (CO_one (l1 := l1) h0 c1).1]
        · rw [(CO_one (l1 := l1) h0 c1).1]; omega
      · rename_i c1
        split
        · rename_i c2
          refine keep _ _ (fun q hq => by simp [va_up, hq]) (fun q hq => rfl) ?_
          exact ⟨by simp [va_up], Or.inr ⟨by simp [va_up], Or.inr ⟨c2.1, c1, c2.2⟩⟩⟩
        · refine keep _ _ (fun q hq => by simp [va_up, hq]) (fun q hq => by simp [va_up, hq]) ?_
          have fr := fold_rel (lg := va_up st.1 s (LG l1 s)) (co := st.2.1) (lg' := LG l1) (co' := CO l1) (ls := 2 ^ tzf 10 s) (r := s &&& (s - 1)) (bd := bd) (s &&& (s - 1)) (fun x hx1 hx2 => part_val hl hc (by omega) h0 ih _ (fun q q1 q2 => by simp only [va_up]; rw [if_neg (by omega)]; exact (ih q q1 q2).1) hx2 hx1) hbd
          rw [← CO_eq hs1 h0 c1] at fr
          refine ⟨by simp [va_up], ?_⟩
          rcases fr with ⟨f1, f2⟩ | ⟨f1, f2⟩
          · refine Or.inl ⟨?_, f1, fun _ => ?_⟩ <;> simp [va_up, f2]
          · refine Or.inr ⟨?_, Or.inl f1⟩
            simp [va_up, f2]
/-- the tree of the class's table is the true one, where that costs at most the bound -/
theorem cl_tree {l1 : Nat → Nat} {al bd c : Nat} {st : gt3} (hl : ∀ t, t < c → l1 t < 2 ^ 20) (hc : c ≤ 10) (hal : al = 2 ^ c - 1) (hR : ∀ q, 1 ≤ q → q ≤ al → clR l1 al bd st q) : ∀ n S, pc_ S ≤ n → S ≠ 0 → S ≤ al → st.2.1 S = CO l1 S → CO l1 S ≤ bd → gd st.2.2 n S ∧ pv st.2.2 n S = pv (FI l1) n S ∧ gd (FI l1) n S
  | 0, S, hn, h0, hS, _, _ => by
    have h10 : (2 : Nat) ^ c ≤ 2 ^ 10 := Nat.pow_le_pow_right (by decide) hc
    have := pc_pos S (by omega) h0
    omega
  | n + 1, S, hn, h0, hS, hco, hb => by
    have h10 : (2 : Nat) ^ c ≤ 2 ^ 10 := Nat.pow_le_pow_right (by decide) hc
    have hp := Nat.two_pow_pos c
    by_cases h1 : S &&& (S - 1) = 0
    · refine ⟨⟨⟨h0, by omega⟩, Or.inl h1⟩, ?_, ⟨⟨h0, by omega⟩, Or.inl h1⟩⟩
      show (if _ then _ else _) = (if _ then _ else _)
      rw [if_pos h1, if_pos h1]
    · have hfi : st.2.2 S = FI l1 S := by
        rcases (hR S (by omega) hS).2 with z | ⟨z, -⟩
        · exact z.2.2 h1
        · omega
      obtain ⟨x, x1, x2, x3, x4, x5⟩ := CO_ge hl hc (show S < 2 ^ c by omega) h0 h1
      obtain ⟨p1, p2, p3, p4, p5, p6, p7⟩ := part_facts (by omega) h0 x2 x1
      have hv := x3
      unfold vx at hv
      have pcs := pc_part p2
      rw [p7] at pcs
      rw [← x4] at hv p1 p2 p3 p4 p7 pcs
      rw [← p7] at hv p1 p5 p6 pcs
      have mA : 2 ^ pc_ (LG l1 (FI l1 S)) ≤ 2 ^ pc_ (LG l1 (FI l1 S) ||| LG l1 (S ^^^ FI l1 S)) := Nat.pow_le_pow_right (by decide) (pc_n_mono (fun i hi => by rw [Nat.testBit_or, hi]; rfl) 32)
      have mB : 2 ^ pc_ (LG l1 (S ^^^ FI l1 S)) ≤ 2 ^ pc_ (LG l1 (FI l1 S) ||| LG l1 (S ^^^ FI l1 S)) := Nat.pow_le_pow_right (by decide) (pc_n_mono (fun i hi => by rw [Nat.testBit_or, hi]; simp) 32)
      have pJ := Nat.two_pow_pos (pc_ (LG l1 (FI l1 S) ||| LG l1 (S ^^^ FI l1 S)))
      have pA := pc_pos (FI l1 S) (by omega) (by omega)
      have pB := pc_pos (S ^^^ FI l1 S) (by omega) (by omega)
      have good : ∀ q, 1 ≤ q → q < S → CO l1 q + 2 ^ pc_ (LG l1 q) ≤ bd → st.2.1 q = CO l1 q := by
        intro q q1 q2 hq
        have pq := Nat.two_pow_pos (pc_ (LG l1 q))
        rcases (hR q q1 (by omega)).2 with z | ⟨-, z | ⟨-, z2, z3⟩⟩
        · exact z.1
        · omega
        · obtain ⟨-, -, -, -, -, g⟩ := CO_ge hl hc (show q < 2 ^ c by omega) (by omega) z2
          omega
      obtain ⟨a1, a2, a3⟩ := cl_tree hl hc hal hR n (FI l1 S) (by omega) (by omega) (by omega) (good _ (by omega) p4 (by omega)) (by omega)
      obtain ⟨b1, b2, b3⟩ := cl_tree hl hc hal hR n (S ^^^ FI l1 S) (by omega) (by omega) (by omega) (good _ (by omega) p6 (by omega)) (by omega)
      refine ⟨⟨⟨h0, by omega⟩, Or.inr ?_⟩, ?_, ⟨⟨h0, by omega⟩, Or.inr ⟨⟨p2, by omega, by omega⟩, a3, b3⟩⟩⟩
      · rw [hfi]; exact ⟨⟨p2, by omega, by omega⟩, a1, b1⟩
      · show (if _ then _ else _) = (if _ then _ else _)
        rw [if_neg h1, if_neg h1, hfi, a2, b2]
end
section
-- GREEDY costs at least what the best order costs
theorem join_le1 {l1 : Nat → Nat} {A B c : Nat} (hc : c ≤ 10) (hA : A ≠ 0) (hB : B ≠ 0) (hd : A &&& B = 0) (hS : A ^^^ B < 2 ^ c) (ht : A.testBit (tzf 10 (A ^^^ B)) = true) : CO l1 (A ^^^ B) ≤ CO l1 A + CO l1 B + 2 ^ pc_ (LG l1 A ||| LG l1 B) := by
  have h10 : (2 : Nat) ^ c ≤ 2 ^ 10 := Nat.pow_le_pow_right (by decide) hc
  have dis : ∀ i, ¬ (A.testBit i = true ∧ B.testBit i = true) := by
    intro i hi
    have : (A &&& B).testBit i = false := by rw [hd]; simp
    rw [Nat.testBit_and, hi.1, hi.2] at this
    cases this
  have bS : ∀ i, (A ^^^ B).testBit i = (A.testBit i || B.testBit i) := by
    intro i
    have := dis i
    rw [Nat.testBit_xor]
    cases h1 : A.testBit i <;> cases h2 : B.testBit i <;> simp_all
  have h0 : A ^^^ B ≠ 0 := by
    intro q
    obtain ⟨i, hi⟩ := Nat.exists_testBit_of_ne_zero hA
    have := bS i
    rw [q, hi] at this
    simp at this
  generalize hs : A ^^^ B = s at *
  obtain ⟨z1, z2, z3, z4, z5, z6⟩ := tz_all s (by omega) h0
  rw [z3] at z4
  generalize ht0 : tzf 10 s = t at *
  generalize hr : s &&& (s - 1) = r at *
  have bp : ∀ i, (2 ^ t).testBit i = decide (t = i) := fun i => Nat.testBit_two_pow
  have br : ∀ i, r.testBit i = (s.testBit i && !decide (t = i)) := by
    clear bS dis
    intro i
    have e1 : (s ^^^ r).testBit i = decide (t = i) := by rw [z4, bp]
    have e2 : (2 ^ t ||| r).testBit i = s.testBit i := by rw [z3]
    rw [Nat.testBit_xor] at e1
    rw [Nat.testBit_or, bp] at e2
    cases h1 : s.testBit i <;> cases h2 : r.testBit i <;> simp_all
  have hn : ¬ r = 0 := by
    intro q
    obtain ⟨i, hi⟩ := Nat.exists_testBit_of_ne_zero hB
    have e1 := br i
    have e2 := bS i
    rw [q] at e1
    rw [hi] at e2
    simp at e1 e2
    have e3 := e1 e2
    subst e3
    exact dis t ⟨ht, hi⟩
  have e := CO_eq (l1 := l1) (s := s) (by omega) h0 (by rw [hr]; exact hn)
  rw [hr, ht0] at e
  have hx : (A ^^^ 2 ^ t) &&& r = A ^^^ 2 ^ t := by
    refine sub_of_bits (fun i hi => ?_)
    rw [Nat.testBit_xor, bp] at hi
    rw [br, bS]
    by_cases c1 : t = i
    · subst c1
      rw [ht] at hi
      simp at hi
    · simp [c1] at hi ⊢
      exact Or.inl hi
  have oA : 2 ^ t ||| (A ^^^ 2 ^ t) = A := by
    apply Nat.eq_of_testBit_eq
    intro i
    rw [Nat.testBit_or, Nat.testBit_xor, bp]
    by_cases c1 : t = i
    · subst c1; simp [ht]
    · simp [c1]
  have oB : r ^^^ (A ^^^ 2 ^ t) = B := by
    apply Nat.eq_of_testBit_eq
    intro i
    have := dis i
    rw [Nat.testBit_xor, Nat.testBit_xor, bp, br, bS]
    by_cases c1 : t = i
    · subst c1
      cases h2 : B.testBit t <;> simp_all
    · cases h1 : A.testBit i <;> cases h2 : B.testBit i <;> simp_all
  have hlt : A ^^^ 2 ^ t < r := by
    have := sub_add hx
    rw [oB] at this
    omega
  have low := ptF_low (lg := LG l1) (co := CO l1) (ls := 2 ^ t) (r := r) (B := 2 ^ 30) (f := 0) r (A ^^^ 2 ^ t) hlt hx
  rw [← e] at low
  unfold vx at low
  rw [oA, oB] at low
  exact low
theorem join_le {l1 : Nat → Nat} {A B c : Nat} (hc : c ≤ 10) (hA : A ≠ 0) (hB : B ≠ 0) (hd : A &&& B = 0) (hS : A ^^^ B < 2 ^ c) : CO l1 (A ^^^ B) ≤ CO l1 A + CO l1 B + 2 ^ pc_ (LG l1 A ||| LG l1 B) := by
  have h10 : (2 : Nat) ^ c ≤ 2 ^ 10 := Nat.pow_le_pow_right (by decide) hc
  by_cases ht : A.testBit (tzf 10 (A ^^^ B)) = true
  · exact join_le1 hc hA hB hd hS ht
  · have h0 : A ^^^ B ≠ 0 := by
      intro q
      have e : A = B := by
        have := congrArg (· ^^^ B) q
        simp only [Nat.xor_assoc, Nat.xor_self, Nat.xor_zero, Nat.zero_xor] at this
        exact this
      rw [e, Nat.and_self] at hd
      exact hB hd
    obtain ⟨z1, -⟩ := tz_all (A ^^^ B) (by omega) h0
    have hbit : (A ^^^ B).testBit (tzf 10 (A ^^^ B)) = true := by
      have e1 : ((A ^^^ B) % 2 ^ (tzf 10 (A ^^^ B) + 1)).testBit (tzf 10 (A ^^^ B)) = true := by rw [z1, Nat.testBit_two_pow]; simp
      rw [Nat.testBit_mod_two_pow] at e1
      simp at e1
      simpa using e1
    have hb : B.testBit (tzf 10 (B ^^^ A)) = true := by
      rw [Nat.xor_comm B A]
      rw [Nat.testBit_xor] at hbit
      cases h1 : A.testBit (tzf 10 (A ^^^ B)) with
      | true => exact absurd h1 ht
      | false => rw [h1] at hbit; simpa using hbit
    have := join_le1 (l1 := l1) (A := B) (B := A) hc hB hA (by rw [Nat.and_comm]; exact hd) (by rw [Nat.xor_comm]; exact hS) hb
    rw [Nat.xor_comm B A, Nat.or_comm] at this
    omega
def sA (f : Nat → Nat) (gn : Nat) : Nat → Nat
  | 0 => 0
  | n + 1 => sA f gn n + (if gn.testBit n = true then 0 else f n)
def xA (f : Nat → Nat) (gn : Nat) : Nat → Nat
  | 0 => 0
  | n + 1 => xA f gn n ^^^ (if gn.testBit n = true then 0 else f n)
theorem sA_congr {f g : Nat → Nat} {gn : Nat} : ∀ n, (∀ i, i < n → f i = g i) → sA f gn n = sA g gn n ∧ xA f gn n = xA g gn n
  | 0, _ => ⟨rfl, rfl⟩
  | n + 1, h => by
    have ih := sA_congr (gn := gn) n (fun i hi => h i (by omega))
    simp only [sA, xA, ih.1, ih.2, h n (by omega)]
    exact ⟨trivial, trivial⟩
theorem sA_out {f : Nat → Nat} {gn p : Nat} : ∀ n, n ≤ p → sA f (gn ||| 2 ^ p) n = sA f gn n ∧ xA f (gn ||| 2 ^ p) n = xA f gn n
  | 0, _ => ⟨rfl, rfl⟩
  | n + 1, h => by
    have ih := sA_out (f := f) (gn := gn) (p := p) n (by omega)
    have e : (gn ||| 2 ^ p).testBit n = gn.testBit n := by
      rw [Nat.testBit_or, Nat.testBit_two_pow]
      simp; omega
    simp only [sA, xA, ih.1, ih.2, e]
    exact ⟨trivial, trivial⟩
theorem sA_set {f : Nat → Nat} {gn p : Nat} (h : gn.testBit p = false) : ∀ n, p < n → sA f gn n = sA f (gn ||| 2 ^ p) n + f p ∧ xA f gn n = xA f (gn ||| 2 ^ p) n ^^^ f p
  | 0, hp => by omega
  | n + 1, hp => by
    by_cases e : p = n
    · subst e
      obtain ⟨a, b⟩ := sA_out (f := f) (gn := gn) p (Nat.le_refl _)
      have e2 : (gn ||| 2 ^ p).testBit p = true := by rw [Nat.testBit_or, Nat.testBit_two_pow]; simp
      simp [sA, xA, a, b, e2, h]
    · obtain ⟨a, b⟩ := sA_set (f := f) h n (by omega)
      have e2 : (gn ||| 2 ^ p).testBit n = gn.testBit n := by
        rw [Nat.testBit_or, Nat.testBit_two_pow]
        simp [e]
      simp only [sA, xA, e2, a, b]
      refine ⟨by omega, ?_⟩
      rw [Nat.xor_assoc, Nat.xor_assoc, Nat.xor_comm (f p)]
theorem one_left : ∀ {n gn : Nat}, pc_n gn n + 1 = n → ∃ i, i < n ∧ gn.testBit i = false ∧ ∀ f : Nat → Nat, sA f gn n = f i ∧ xA f gn n = f i
  | 0, gn, h => by simp [pc_n] at h
  | n + 1, gn, h => by
    cases hb : gn.testBit n with
    | true =>
      obtain ⟨i, h1, h2, h3⟩ := one_left (n := n) (gn := gn) (by simp [pc_n, hb] at h; omega)
      exact ⟨i, by omega, h2, fun f => by simp [sA, xA, hb, (h3 f).1, (h3 f).2]⟩
    | false =>
      have z : ∀ {m : Nat}, pc_n gn m = m → ∀ f : Nat → Nat, sA f gn m = 0 ∧ xA f gn m = 0 := by
        intro m
        induction m with
        | zero => intro _ f; exact ⟨rfl, rfl⟩
        | succ m ih =>
          intro q f
          have hm := pc_n_le gn m
          cases hb2 : gn.testBit m with
          | false => simp [pc_n, hb2] at q; omega
          | true =>
            obtain ⟨a, b⟩ := ih (by simp [pc_n, hb2] at q; omega) f
            simp [sA, xA, hb2, a, b]
      refine ⟨n, by omega, hb, fun f => ?_⟩
      obtain ⟨a, b⟩ := z (m := n) (by simp [pc_n, hb] at h; omega) f
      simp [sA, xA, hb, a, b]
/-- things stand for sets of tensors that are apart; what is done costs at least their orders -/
def gin (l1 : Nat → Nat) (c : Nat) (s : gst) (t : Nat) : Prop := ∃ se : Nat → Nat, (∀ i, i < c + t → se i ≠ 0 ∧ se i < 2 ^ c ∧ s.1 i = LG l1 (se i)) ∧ (∀ i j, i < c + t → j < c + t → i ≠ j → s.2.2.1.testBit i = false → s.2.2.1.testBit j = false → se i &&& se j = 0) ∧ xA se s.2.2.1 (c + t) = 2 ^ c - 1 ∧ sA (fun i => CO l1 (se i)) s.2.2.1 (c + t) ≤ s.2.2.2.2.2
theorem gin_s {l1 : Nat → Nat} {c t : Nat} {s : gst} (hc : c ≤ 10) (hg : gok c s t) (ht : t + 1 < c) (h : gin l1 c s t) : gin l1 c (gtu c s t) (t + 1) := by
  obtain ⟨p, q, hch, h1, h2, h3, h4⟩ := gok_ch hg ht
  obtain ⟨se, k1, k2, k3, k4⟩ := h
  have hgn := hg.2.1
  unfold gtu
  rw [hch]
  have ap := k1 p (by omega)
  have aq := k1 q (by omega)
  have hd := k2 p q (by omega) h2 (by omega) h3 h4
  have hxl : se p ^^^ se q < 2 ^ c := Nat.xor_lt_two_pow ap.2.1 aq.2.1
  have hj := join_le (l1 := l1) hc ap.1 aq.1 hd hxl
  have hx0 : se p ^^^ se q ≠ 0 := by
    intro z
    have e : se p = se q := by
      have := congrArg (· ^^^ se q) z
      simp only [Nat.xor_assoc, Nat.xor_self, Nat.xor_zero, Nat.zero_xor] at this
      exact this
    rw [e, Nat.and_self] at hd
    exact aq.1 hd
  have bb : ∀ i, (s.2.2.1 ||| (2 ^ p ||| 2 ^ q)).testBit i = (s.2.2.1.testBit i || (decide (p = i) || decide (q = i))) := fun i => by rw [Nat.testBit_or, Nat.testBit_or, Nat.testBit_two_pow, Nat.testBit_two_pow]
  have top : (s.2.2.1 ||| (2 ^ p ||| 2 ^ q)).testBit (c + t) = false := by
    rw [bb, Nat.testBit_lt_two_pow hgn]
    simp; omega
  have hq2 : (s.2.2.1 ||| 2 ^ p).testBit q = false := by
    rw [Nat.testBit_or, h4, Nat.testBit_two_pow]
    simp; omega
  refine ⟨va_up se (c + t) (se p ^^^ se q), fun i hi => ?_, fun i j hi hj hij gi gj => ?_, ?_, ?_⟩
  · by_cases e : i = c + t
    · subst e
      simp only [va_up, if_true]
      exact ⟨hx0, hxl, by rw [ap.2.2, aq.2.2, LG, LG, LG, LGn_xor]⟩
    · simp only [va_up, if_neg e]
      exact k1 i (by omega)
  · have gi' := gi
    have gj' := gj
    simp only [bb] at gi' gj'
    simp at gi' gj'
    have cross : ∀ k, k < c + t → s.2.2.1.testBit k = false → p ≠ k → q ≠ k → (se p ^^^ se q) &&& se k = 0 := by
      intro k hk g1 g2 g3
      have e1 := k2 p k (by omega) hk g2 h3 g1
      have e2 := k2 q k (by omega) hk g3 h4 g1
      apply Nat.eq_of_testBit_eq
      intro m
      have b1 : (se p &&& se k).testBit m = false := by rw [e1]; simp
      have b2 : (se q &&& se k).testBit m = false := by rw [e2]; simp
      rw [Nat.testBit_and] at b1 b2
      simp only [Nat.testBit_and, Nat.testBit_xor, Nat.zero_testBit]
      cases x1 : (se p).testBit m <;> cases x2 : (se q).testBit m <;> cases x3 : (se k).testBit m <;> simp_all
    by_cases ei : i = c + t
    · subst ei
      have ej : ¬ j = c + t := fun z => hij z.symm
      simp only [va_up, if_true, if_neg ej]
      exact cross j (by omega) gj'.1 gj'.2.1 gj'.2.2
    · by_cases ej : j = c + t
      · subst ej
        simp only [va_up, if_true, if_neg ei]
        rw [Nat.and_comm]
        exact cross i (by omega) gi'.1 gi'.2.1 gi'.2.2
      · simp only [va_up, if_neg ei, if_neg ej]
        exact k2 i j (by omega) (by omega) hij gi'.1 gj'.1
  · have e1 := (sA_set (f := se) h3 (c + t) (by omega)).2
    have e2 := (sA_set (f := se) hq2 (c + t) h2).2
    have e3 := (sA_congr (f := va_up se (c + t) (se p ^^^ se q)) (g := se) (gn := s.2.2.1 ||| (2 ^ p ||| 2 ^ q)) (c + t) (fun i hi => by simp only [va_up]; rw [if_neg (by omega)])).2
    show xA _ _ (c + t + 1) = _
    simp only [xA, e3, top]
    rw [← k3, e1, e2, ← Nat.or_assoc]
    simp [va_up]
    rw [Nat.xor_assoc, Nat.xor_comm (se q) (se p)]
  · have e1 := (sA_set (f := fun i => CO l1 (se i)) h3 (c + t) (by omega)).1
    have e2 := (sA_set (f := fun i => CO l1 (se i)) hq2 (c + t) h2).1
    have e3 := (sA_congr (f := fun i => CO l1 (va_up se (c + t) (se p ^^^ se q) i)) (g := fun i => CO l1 (se i)) (gn := s.2.2.1 ||| (2 ^ p ||| 2 ^ q)) (c + t) (fun i hi => by simp only [va_up]; rw [if_neg (by omega)])).1
    show sA _ _ (c + t + 1) ≤ s.2.2.2.2.2 + 2 ^ pc_ (s.1 p ||| s.1 q)
    simp only [sA, e3, top]
    rw [← Nat.or_assoc, ap.2.2, aq.2.2]
    simp [va_up]
    rw [e1, e2] at k4
    omega
theorem sA_init {l1 : Nat → Nat} : ∀ n, n ≤ 10 → sA (fun i => CO l1 (2 ^ i)) 0 n = 0 ∧ xA (fun i => 2 ^ i) 0 n = 2 ^ n - 1
  | 0, _ => ⟨rfl, rfl⟩
  | n + 1, h => by
    obtain ⟨a, b⟩ := sA_init (l1 := l1) n (by omega)
    have z : CO l1 (2 ^ n) = 0 := by
      have : ∀ t, t < 10 → 2 ^ t &&& (2 ^ t - 1) = 0 := by decide
      exact (CO_one (by have := Nat.two_pow_pos n; omega) (this n (by omega))).1
    have w : ∀ n, n < 10 → (2 ^ n - 1) ^^^ 2 ^ n = 2 ^ (n + 1) - 1 := by decide
    simp [sA, xA, a, b, z, w n (by omega)]
theorem gin_0 {l1 L0 Z0 les oth : Nat → Nat} {c : Nat} (hc : c ≤ 10) : gin l1 c (hv_cp l1 L0 c, hv_cp (fun j => 2 ^ pc_ (l1 j)) Z0 c, 0, les, oth, 0) 0 := by
  obtain ⟨a, b⟩ := sA_init (l1 := l1) c hc
  refine ⟨fun i => 2 ^ i, fun i hi => ?_, fun i j hi hj hij _ _ => ?_, b, by show sA _ 0 c ≤ 0; rw [a]; exact Nat.le_refl _⟩
  · have hi : i < c := hi
    refine ⟨Nat.ne_of_gt (Nat.two_pow_pos i), Nat.pow_lt_pow_right (by decide) hi, ?_⟩
    simp only [hv_cp, if_pos hi]
    rw [LG, LGn_one, if_pos (by omega)]
  · apply Nat.eq_of_testBit_eq
    intro m
    simp only [Nat.testBit_and, Nat.testBit_two_pow, Nat.zero_testBit]
    by_cases e : i = m
    · subst e; simp; omega
    · simp [e]
theorem gin_r {l1 : Nat → Nat} {c : Nat} {s : gst} (hc : c ≤ 10) (hg : gok c s 0) (h : gin l1 c s 0) : ∀ t, t < c → gin l1 c (grun c s t) t
  | 0, _ => h
  | t + 1, ht => gin_s hc (gok_r hg t (by omega)) ht (gin_r hc hg h t (by omega))
theorem greedy_ge {l1 L0 Z0 les oth : Nat → Nat} {c : Nat} (hc1 : 1 ≤ c) (hc : c ≤ 10) (hl : ∀ t, t < c → l1 t < 2 ^ 20) : CO l1 (2 ^ c - 1) ≤ (grun c (hv_cp l1 L0 c, hv_cp (fun j => 2 ^ pc_ (l1 j)) Z0 c, 0, les, oth, 0) (c - 1)).2.2.2.2.2 := by
  have hg := gok_0 (L0 := L0) (Z0 := Z0) (les := les) (oth := oth) hl
  have G := gok_r hg (c - 1) (by omega)
  obtain ⟨se, k1, k2, k3, k4⟩ := gin_r hc hg (gin_0 (l1 := l1) hc) (c - 1) (by omega)
  obtain ⟨i, h1, h2, h3⟩ := one_left (by rw [G.1]; omega)
  rw [(h3 se).2] at k3
  rw [(h3 _).1] at k4
  rw [← k3]
  exact k4
end
section
-- WHAT AN ORDER HOLDS
theorem cl_nodes {l1 : Nat → Nat} {al bd c : Nat} {st : gt3} (hl : ∀ t, t < c → l1 t < 2 ^ 20) (hc : c ≤ 10) (hal : al = 2 ^ c - 1) (hR : ∀ q, 1 ≤ q → q ≤ al → clR l1 al bd st q) : ∀ n S, S ≠ 0 → S ≤ al → st.2.1 S = CO l1 S → CO l1 S ≤ bd → ∀ X ∈ pv (FI l1) n S, st.2.2 X = FI l1 X ∧ 1 ≤ X ∧ X ≤ al ∧ ¬ X &&& (X - 1) = 0
  | 0, S, _, _, _, _ => fun X hX => by simp [pv] at hX
  | n + 1, S, h0, hS, hco, hb => by
    have h10 : (2 : Nat) ^ c ≤ 2 ^ 10 := Nat.pow_le_pow_right (by decide) hc
    have hp := Nat.two_pow_pos c
    intro X hX
    by_cases h1 : S &&& (S - 1) = 0
    · simp [pv, h1] at hX
    · have hfi : st.2.2 S = FI l1 S := by
        rcases (hR S (by omega) hS).2 with z | ⟨z, -⟩
        · exact z.2.2 h1
        · omega
      obtain ⟨x, x1, x2, x3, x4, x5⟩ := CO_ge hl hc (show S < 2 ^ c by omega) h0 h1
      obtain ⟨p1, p2, p3, p4, p5, p6, p7⟩ := part_facts (by omega) h0 x2 x1
      have hv := x3
      unfold vx at hv
      rw [← x4] at hv p1 p2 p3 p4 p7
      rw [← p7] at hv p1 p5 p6
      have mA : 2 ^ pc_ (LG l1 (FI l1 S)) ≤ 2 ^ pc_ (LG l1 (FI l1 S) ||| LG l1 (S ^^^ FI l1 S)) := Nat.pow_le_pow_right (by decide) (pc_n_mono (fun i hi => by rw [Nat.testBit_or, hi]; rfl) 32)
      have mB : 2 ^ pc_ (LG l1 (S ^^^ FI l1 S)) ≤ 2 ^ pc_ (LG l1 (FI l1 S) ||| LG l1 (S ^^^ FI l1 S)) := Nat.pow_le_pow_right (by decide) (pc_n_mono (fun i hi => by rw [Nat.testBit_or, hi]; simp) 32)
      have pJ := Nat.two_pow_pos (pc_ (LG l1 (FI l1 S) ||| LG l1 (S ^^^ FI l1 S)))
      have good : ∀ q, 1 ≤ q → q < S → CO l1 q + 2 ^ pc_ (LG l1 q) ≤ bd → st.2.1 q = CO l1 q := by
        intro q q1 q2 hq
        have pq := Nat.two_pow_pos (pc_ (LG l1 q))
        rcases (hR q q1 (by omega)).2 with z | ⟨-, z | ⟨-, z2, z3⟩⟩
        · exact z.1
        · omega
        · obtain ⟨-, -, -, -, -, g⟩ := CO_ge hl hc (show q < 2 ^ c by omega) (by omega) z2
          omega
      simp only [pv, if_neg h1, List.mem_cons, List.mem_append] at hX
      rcases hX with rfl | hX | hX
      · exact ⟨hfi, by omega, hS, h1⟩
      · exact cl_nodes hl hc hal hR n (S ^^^ FI l1 S) (by omega) (by omega) (good _ (by omega) p6 (by omega)) (by omega) X hX
      · exact cl_nodes hl hc hal hR n (FI l1 S) (by omega) (by omega) (good _ (by omega) p4 (by omega)) (by omega) X hX
/-- the sets that the steps make, the first step first -/
def MD (l1 : Nat → Nat) (c : Nat) (j : Nat) : Nat := (pv (FI l1) 10 (2 ^ c - 1)).getD (c - 2 - j) 0
/-- the peak -/
def PK (l1 : Nat → Nat) (c : Nat) : Nat := mlB (LG l1) (MD l1 c) (mlA (LG l1) c) (c - 1)
theorem mlA_congr {f g : Nat → Nat} : ∀ n, (∀ i, i < n → f (2 ^ i) = g (2 ^ i)) → mlA f n = mlA g n
  | 0, _ => rfl
  | n + 1, h => by simp only [mlA, mlA_congr n (fun i hi => h i (by omega)), h n (by omega)]
theorem mlB_congr {f g md md' : Nat → Nat} {b : Nat} : ∀ n, (∀ i, i < n → md i = md' i) → (∀ i, i < n → f (md' i) = g (md' i)) → mlB f md b n = mlB g md' b n
  | 0, _, _ => rfl
  | n + 1, h, h2 => by simp only [mlB, mlB_congr n (fun i hi => h i (by omega)) (fun i hi => h2 i (by omega)), h n (by omega), h2 n (by omega)]
def ordOK (l1 : Nat → Nat) (c : Nat) (lg co fi md : Nat → Nat) (ac ml : Nat) : Prop := ac = CO l1 (2 ^ c - 1) ∧ (∀ S, 1 ≤ S → S ≤ 2 ^ c - 1 → lg S = LG l1 S) ∧ gd (FI l1) 10 (2 ^ c - 1) ∧ (∀ X ∈ pv (FI l1) 10 (2 ^ c - 1), fi X = FI l1 X) ∧ (∀ j, j < c - 1 → md j = MD l1 c j) ∧ ml = PK l1 c
theorem pc_all : ∀ c, c ≤ 10 → pc_ (2 ^ c - 1) = c := by decide +kernel
theorem find_tree {l1 : Nat → Nat} {c bd : Nat} {st0 : gt3} (hl : ∀ t, t < c → l1 t < 2 ^ 20) (hc1 : 1 ≤ c) (hc : c ≤ 10) (hbd : bd < 2 ^ 26) (hz : st0.1 0 = 0) (hgr : CO l1 (2 ^ c - 1) ≤ bd) :
    gd (fdF l1 (2 ^ c - 1) bd st0 (2 ^ c - 1 + 1)).2.2 10 (2 ^ c - 1) ∧ pv (fdF l1 (2 ^ c - 1) bd st0 (2 ^ c - 1 + 1)).2.2 10 (2 ^ c - 1) = pv (FI l1) 10 (2 ^ c - 1) ∧ (fdF l1 (2 ^ c - 1) bd st0 (2 ^ c - 1 + 1)).1 0 = 0 ∧ ∀ (md : Nat → Nat), (∀ j, j < c - 1 → md j = MD l1 c j) → ordOK l1 c (fdF l1 (2 ^ c - 1) bd st0 (2 ^ c - 1 + 1)).1 (fdF l1 (2 ^ c - 1) bd st0 (2 ^ c - 1 + 1)).2.1 (fdF l1 (2 ^ c - 1) bd st0 (2 ^ c - 1 + 1)).2.2 md ((fdF l1 (2 ^ c - 1) bd st0 (2 ^ c - 1 + 1)).2.1 (2 ^ c - 1)) (mlB (fdF l1 (2 ^ c - 1) bd st0 (2 ^ c - 1 + 1)).1 md (mlA (fdF l1 (2 ^ c - 1) bd st0 (2 ^ c - 1 + 1)).1 c) (c - 1)) := by
  have h2 : 2 ^ 1 ≤ 2 ^ c := Nat.pow_le_pow_right (by decide) hc1
  have pa := pc_all c hc
  obtain ⟨r0, r1⟩ := cl_all (al := 2 ^ c - 1) (bd := bd) hl hc rfl (by omega) hz (2 ^ c - 1 + 1) (Nat.le_refl _)
  generalize fdF l1 (2 ^ c - 1) bd st0 (2 ^ c - 1 + 1) = F at r0 r1 ⊢
  have hR : ∀ q, 1 ≤ q → q ≤ 2 ^ c - 1 → clR l1 (2 ^ c - 1) bd F q := fun q a b => r1 q a (by omega)
  have hco : F.2.1 (2 ^ c - 1) = CO l1 (2 ^ c - 1) := by
    rcases (hR (2 ^ c - 1) (by omega) (Nat.le_refl _)).2 with z | ⟨-, z | ⟨z, -⟩⟩
    · exact z.1
    · omega
    · exact absurd rfl z
  obtain ⟨t1, t2, t3⟩ := cl_tree hl hc rfl hR 10 (2 ^ c - 1) (by omega) (by omega) (Nat.le_refl _) hco hgr
  have t4 := cl_nodes hl hc rfl hR 10 (2 ^ c - 1) (by omega) (Nat.le_refl _) hco hgr
  have hin : ∀ j, j < c - 1 → 1 ≤ MD l1 c j ∧ MD l1 c j ≤ 2 ^ c - 1 := by
    intro j hj
    have hlen := pv_len t3
    unfold MD
    rw [List.getD_eq_getElem?_getD]
    cases e : (pv (FI l1) 10 (2 ^ c - 1))[c - 2 - j]? with
    | none =>
      rw [List.getElem?_eq_none_iff] at e
      omega
    | some x =>
      have := t4 x (List.mem_of_getElem? e)
      exact ⟨this.2.1, this.2.2.1⟩
  refine ⟨t1, t2, r0, fun md hmd => ⟨hco, fun S a b => (hR S a b).1, t3, fun X hX => (t4 X hX).1, hmd, ?_⟩⟩
  unfold PK
  have e1 : mlA F.1 c = mlA (LG l1) c := mlA_congr c (fun i hi => (hR _ (Nat.two_pow_pos i) (by have := Nat.pow_lt_pow_right (a := 2) (by decide) hi; omega)).1)
  rw [e1]
  exact mlB_congr _ hmd (fun i hi => (hR _ (hin i hi).1 (hin i hi).2).1)
theorem grun_ac {c : Nat} {s : gst} (hg : gok c s 0) : ∀ t, t < c → (grun c s t).2.2.2.2.2 ≤ s.2.2.2.2.2 + t * 2 ^ 20
  | 0, _ => by simp [grun]
  | t + 1, ht => by
    have ih := grun_ac hg t (by omega)
    have G := gok_r hg t (by omega)
    obtain ⟨p, q, hch, h1, h2, h3, h4⟩ := gok_ch G ht
    have e : grun c s (t + 1) = gtu c (grun c s t) t := rfl
    rw [e]
    unfold gtu
    rw [hch]
    have := (two20 (Nat.or_lt_two_pow (G.2.2 p (by omega)).1 (G.2.2 q h2).1)).2
    show _ + _ ≤ _
    omega
end
section
-- THE CLASS: findOrder
set_option maxRecDepth 100000 in
set_option maxHeartbeats 4000000 in
theorem c_N_findOrder (l : Launch) (D : hv_D) (h : hv_P) (nx : Nat) {b oa c cu : Nat} {ap z wk lk ac ml gn0 gac0 : Int32} {pl lg lg0 co0 fi0 md0 wt0 l0 GL GZ gles goth : Nat → Nat} (hb : h b = some (oN b (nI c) ap z wk lk)) (hts : h (b + 1) = some (eQ 2 10 (fun i => some (b + 2 + 4 * i)))) (hT : ∀ i, i < 10 → h (b + 2 + 4 * i) = some (oT (b + 2 + 4 * i) (nI (pl i)) (nI (lg i)))) (ha : h oa = some (oO oa ac ml)) (hl : h (oa + 1) = some (eN 1024 lg0)) (hco : h (oa + 2) = some (eN 1024 co0)) (hf : h (oa + 3) = some (eN 1024 fi0)) (hm : h (oa + 4) = some (eN 10 md0)) (hw : h (oa + 5) = some (eN 11 wt0)) (hl0 : h (b + 43) = some (eN 10 l0)) (hg : h (b + 57) = some (oG (b + 57) gn0 gac0)) (hgL : h (b + 58) = some (eN 20 GL)) (hgZ : h (b + 59) = some (eN 20 GZ)) (hgle : h (b + 60) = some (eN 10 gles)) (hgot : h (b + 61) = some (eN 10 goth)) (hoa : oa = b + 45 ∨ oa = b + 51) (hc1 : 1 ≤ c) (hc2 : c ≤ 10) (hlg : ∀ i, i < c → lg i < 2 ^ 20) (hok : fdOk (lg0, co0, fi0)) (hz : lg0 0 = 0) : hv_N l D M_N_findOrder (hv_rm 3 76 0 0) [.ref b, .ref oa, .int (nI cu)] h nx (hv_ans none (fun h' n' => n' = nx ∧ ∃ (lg' co' fi' md' wt' l1' gL' gZ' gle' got' : Nat → Nat) (ac' ml' : Nat) (gn' gac' : Int32), h' = hv_ov h [(oa, oO oa (nI ac') (nI ml')), (oa + 1, eN 1024 (lg')), (oa + 2, eN 1024 (co')), (oa + 3, eN 1024 (fi')), (oa + 4, eN 10 (md')), (oa + 5, eN 11 (wt')), (b + 43, eN 10 (l1')), (b + 57, oG (b + 57) (gn') (gac')), (b + 58, eN 20 (gL')), (b + 59, eN 20 (gZ')), (b + 60, eN 10 (gle')), (b + 61, eN 10 (got'))] ∧ (∀ j, j < c → l1' j = anN (lg j) cu) ∧ ordOK l1' c lg' co' fi' md' ac' ml' ∧ fdOk (lg', co', fi') ∧ lg' 0 = 0)) := by
  have hL : ∀ t, t < c → (hv_cp (fun j => anN (lg j) cu) l0 c) t < 2 ^ 20 := fun t ht => by simp only [hv_cp]; rw [if_pos ht]; exact anN_lt (hlg t ht)
  refine hv_N.of' [some (.ref b), some (.ref oa), some (.int (nI cu))] (by decide +kernel) rfl rfl rfl ?_
  refine V_eqH (ob_12 ha hl hco hf hm hw hl0 hg hgL hgZ hgle hgot) ?_
  refine V_aload_n d_N_findOrder_0 rfl ?_
  refine V_iload_n d_N_findOrder_1 rfl ?_
  refine V_callV0 d_N_findOrder_2 ml_N_144 mB_N_takeLegs mi_N_takeLegs mv_N_takeLegs rfl (oa_12 hb (by omega) (by omega) (by omega) (by omega) (by omega) (by omega) (by omega) (by omega) (by omega) (by omega) (by omega) (by omega)) (c_N_takeLegs l D _ _ (oa_12 hb (by omega) (by omega) (by omega) (by omega) (by omega) (by omega) (by omega) (by omega) (by omega) (by omega) (by omega) (by omega)) (oa_12 hts (by omega) (by omega) (by omega) (by omega) (by omega) (by omega) (by omega) (by omega) (by omega) (by omega) (by omega) (by omega)) (fun i hi => oa_12 (hT i hi) (by omega) (by omega) (by omega) (by omega) (by omega) (by omega) (by omega) (by omega) (by omega) (by omega) (by omega) (by omega)) (og_6 (by omega) (by omega) (by omega) (by omega) (by omega) (by omega)) hc2) rfl rfl rfl rfl rfl rfl rfl ?_
  rintro _ _ ⟨rfl, rfl⟩
  rw [ox_1, ou_6 (by omega) (by omega) (by omega) (by omega) (by omega) (by omega)]
  refine V_aload_n d_N_findOrder_5 rfl ?_
  refine V_getfield d_N_findOrder_6 fl_N_39 (oa_12 hb (by omega) (by omega) (by omega) (by omega) (by omega) (by omega) (by omega) (by omega) (by omega) (by omega) (by omega) (by omega)) rfl ?_
  refine V_aload_n d_N_findOrder_9 rfl ?_
  refine V_getfield d_N_findOrder_10 fl_N_20 (oa_12 hb (by omega) (by omega) (by omega) (by omega) (by omega) (by omega) (by omega) (by omega) (by omega) (by omega) (by omega) (by omega)) rfl ?_
  refine V_aload_n d_N_findOrder_13 rfl ?_
  refine V_getfield d_N_findOrder_14 fl_N_53 (oa_12 hb (by omega) (by omega) (by omega) (by omega) (by omega) (by omega) (by omega) (by omega) (by omega) (by omega) (by omega) (by omega)) rfl ?_
  refine V_callV0 d_N_findOrder_17 ml_N_147 mB_G_joinAll mi_G_joinAll mv_G_joinAll rfl (og_7 (by omega) (by omega) (by omega) (by omega) (by omega) (by omega) (by omega)) (c_G_joinAll l D _ _ (og_7 (by omega) (by omega) (by omega) (by omega) (by omega) (by omega) (by omega)) (og_8 (by omega) (by omega) (by omega) (by omega) (by omega) (by omega) (by omega) (by omega)) (og_9 (by omega) (by omega) (by omega) (by omega) (by omega) (by omega) (by omega) (by omega) (by omega)) (og_10 (by omega) (by omega) (by omega) (by omega) (by omega) (by omega) (by omega) (by omega) (by omega) (by omega)) (og_11 (by omega) (by omega) (by omega) (by omega) (by omega) (by omega) (by omega) (by omega) (by omega) (by omega) (by omega)) (og_6 (by omega) (by omega) (by omega) (by omega) (by omega) (by omega)) (by omega) hc1 hc2 hL) rfl rfl rfl rfl rfl rfl rfl ?_
  rintro _ _ ⟨rfl, rfl⟩
  rw [ox_6, ou_6 (by omega) (by omega) (by omega) (by omega) (by omega) (by omega), ou_11 (by omega) (by omega) (by omega) (by omega) (by omega) (by omega) (by omega) (by omega) (by omega) (by omega) (by omega), ou_10 (by omega) (by omega) (by omega) (by omega) (by omega) (by omega) (by omega) (by omega) (by omega) (by omega), ou_9 (by omega) (by omega) (by omega) (by omega) (by omega) (by omega) (by omega) (by omega) (by omega), ou_8 (by omega) (by omega) (by omega) (by omega) (by omega) (by omega) (by omega) (by omega), ou_7 (by omega) (by omega) (by omega) (by omega) (by omega) (by omega) (by omega)]
  refine V_aload_n d_N_findOrder_20 rfl ?_
  refine V_aload_n d_N_findOrder_21 rfl ?_
  refine V_getfield d_N_findOrder_22 fl_N_20 (oa_12 hb (by omega) (by omega) (by omega) (by omega) (by omega) (by omega) (by omega) (by omega) (by omega) (by omega) (by omega) (by omega)) rfl ?_
  refine V_aload_n d_N_findOrder_25 rfl ?_
  refine V_getfield d_N_findOrder_26 fl_N_53 (oa_12 hb (by omega) (by omega) (by omega) (by omega) (by omega) (by omega) (by omega) (by omega) (by omega) (by omega) (by omega) (by omega)) rfl ?_
  refine V_aload_n d_N_findOrder_29 rfl ?_
  refine V_getfield d_N_findOrder_30 fl_N_39 (oa_12 hb (by omega) (by omega) (by omega) (by omega) (by omega) (by omega) (by omega) (by omega) (by omega) (by omega) (by omega) (by omega)) rfl ?_
  refine V_getfield d_N_findOrder_33 fl_N_150 (og_7 (by omega) (by omega) (by omega) (by omega) (by omega) (by omega) (by omega)) rfl ?_
  have hge := greedy_ge (L0 := GL) (Z0 := GZ) (les := gles) (oth := goth) hc1 hc2 hL
  have hac := grun_ac (gok_0 (L0 := GL) (Z0 := GZ) (les := gles) (oth := goth) hL) (c - 1) (by omega)
  have hac2 : (grun c (hv_cp (hv_cp (fun j => anN (lg j) cu) l0 c) GL c, hv_cp (fun j => 2 ^ pc_ ((hv_cp (fun j => anN (lg j) cu) l0 c) j)) GZ c, 0, gles, goth, 0) (c - 1)).2.2.2.2.2 < 2 ^ 26 := by
    have e0 : ((grun c (hv_cp (hv_cp (fun j => anN (lg j) cu) l0 c) GL c, hv_cp (fun j => 2 ^ pc_ ((hv_cp (fun j => anN (lg j) cu) l0 c) j)) GZ c, 0, gles, goth, 0) (c - 1)).2.2.2.2.2 ≤ 0 + (c - 1) * 2 ^ 20) := hac
    have : (c - 1) * 2 ^ 20 ≤ 9 * 2 ^ 20 := Nat.mul_le_mul_right _ (by omega)
    omega
  obtain ⟨T1, T2, T3, T4⟩ := find_tree (st0 := (lg0, co0, fi0)) hL hc1 hc2 hac2 hz hge
  generalize (grun c (hv_cp (hv_cp (fun j => anN (lg j) cu) l0 c) GL c, hv_cp (fun j => 2 ^ pc_ ((hv_cp (fun j => anN (lg j) cu) l0 c) j)) GZ c, 0, gles, goth, 0) (c - 1)) = G at hge hac2 T1 T2 T3 T4 ⊢
  refine V_callV0 d_N_findOrder_36 ml_N_187 mB_O_find mi_O_find mv_O_find rfl og_0 (c_O_find l D _ _ og_0 (og_1 (by omega)) (og_2 (by omega) (by omega)) (og_3 (by omega) (by omega) (by omega)) (og_4 (by omega) (by omega) (by omega) (by omega)) (og_5 (by omega) (by omega) (by omega) (by omega) (by omega)) (og_6 (by omega) (by omega) (by omega) (by omega) (by omega) (by omega)) (by omega) hc1 hc2 rfl hac2 hok hL (pc_all c hc2) T1) rfl rfl rfl rfl rfl rfl rfl ?_
  rintro _ _ ⟨rfl, md', wt', rfl, hmd⟩
  rw [ox_7, ou_6 (by omega) (by omega) (by omega) (by omega) (by omega) (by omega), ou_5 (by omega) (by omega) (by omega) (by omega) (by omega), ou_4 (by omega) (by omega) (by omega) (by omega), ou_3 (by omega) (by omega) (by omega), ou_2 (by omega) (by omega), ou_1 (by omega), ou_0]
  rw [T2] at hmd
  exact V_return d_N_findOrder_39 rfl ⟨rfl, rfl, _, _, _, md', wt', _, _, _, _, _, _, _, _, _, rfl, fun j hj => by simp only [hv_cp]; rw [if_pos hj], T4 md' hmd, fdOk_f hok hL hc2 hac2 _ (by have := Nat.two_pow_pos c; omega), T3⟩
end
section
-- ONLY THE LEGS OF THE TENSORS THAT ARE THERE COUNT
theorem LGn_congr {l1 l2 : Nat → Nat} {c S : Nat} (h : ∀ t, t < c → l1 t = l2 t) (hS : S < 2 ^ c) : ∀ n, LGn l1 S n = LGn l2 S n
  | 0 => rfl
  | n + 1 => by
    simp only [LGn, LGn_congr h hS n]
    split
    · rename_i q
      rw [h n ?_]
      rcases Nat.lt_or_ge n c with z | z
      · exact z
      · rw [Nat.testBit_lt_two_pow (Nat.lt_of_lt_of_le hS (Nat.pow_le_pow_right (by decide) z))] at q
        cases q
    · rfl
theorem CO_congr {l1 l2 : Nat → Nat} {c : Nat} (hc : c ≤ 10) (h : ∀ t, t < c → l1 t = l2 t) : ∀ s, s ≠ 0 → s < 2 ^ c → CO l1 s = CO l2 s ∧ FI l1 s = FI l2 s := by
  intro s
  induction s using Nat.strongRecOn with
  | ind s ih =>
    intro h0 hs
    have h10 : (2 : Nat) ^ c ≤ 2 ^ 10 := Nat.pow_le_pow_right (by decide) hc
    by_cases h1 : s &&& (s - 1) = 0
    · obtain ⟨a, b⟩ := CO_one (l1 := l1) h0 h1
      obtain ⟨a', b'⟩ := CO_one (l1 := l2) h0 h1
      exact ⟨by rw [a, a'], by rw [b, b']⟩
    · have e1 := CO_eq (l1 := l1) (by omega) h0 h1
      have e2 := CO_eq (l1 := l2) (by omega) h0 h1
      have e3 : ptF (LG l1) (CO l1) (2 ^ tzf 10 s) (s &&& (s - 1)) (2 ^ 30, 0) (s &&& (s - 1)) = ptF (LG l2) (CO l2) (2 ^ tzf 10 s) (s &&& (s - 1)) (2 ^ 30, 0) (s &&& (s - 1)) := by
        refine ptF_congr _ (fun x hx hq => ?_)
        obtain ⟨p1, p2, p3, p4, p5, p6, p7⟩ := part_facts (by omega) h0 hq hx
        unfold vx
        rw [(ih _ p4 (by omega) (by omega)).1, (ih _ p6 (by omega) (by omega)).1, LG, LG, LG, LG, LGn_congr h (show 2 ^ tzf 10 s ||| x < 2 ^ c by omega), LGn_congr h (show (s &&& (s - 1)) ^^^ x < 2 ^ c by omega)]
      rw [e3, ← e2] at e1
      exact ⟨congrArg Prod.fst e1, congrArg Prod.snd e1⟩
theorem pv_congr {f g : Nat → Nat} {m : Nat} (h : ∀ s, s ≠ 0 → s < 2 ^ m → f s = g s) : ∀ n S, S < 2 ^ m → gd f n S → gd g n S ∧ pv f n S = pv g n S
  | 0, S, _, q => q.elim
  | n + 1, S, hS, q => by
    by_cases c : S &&& (S - 1) = 0
    · refine ⟨⟨q.1, Or.inl c⟩, ?_⟩
      show (if _ then _ else _) = (if _ then _ else _)
      rw [if_pos c, if_pos c]
    · obtain ⟨⟨a1, a2, a3⟩, a4, a5⟩ := q.2.resolve_left c
      have e := h S q.1.1 hS
      have le := sub_add a1
      obtain ⟨b1, b2⟩ := pv_congr h n (f S) (by omega) a4
      obtain ⟨c1, c2⟩ := pv_congr h n (S ^^^ f S) (by omega) a5
      refine ⟨⟨q.1, Or.inr ?_⟩, ?_⟩
      · rw [← e]; exact ⟨⟨a1, a2, a3⟩, b1, c1⟩
      · show (if _ then _ else _) = (if _ then _ else _)
        rw [if_neg c, if_neg c, ← e, b2, c2]
theorem pv_sub {f : Nat → Nat} {m : Nat} : ∀ n S, S < 2 ^ m → gd f n S → ∀ X ∈ pv f n S, X ≠ 0 ∧ X < 2 ^ m
  | 0, S, _, q => q.elim
  | n + 1, S, hS, q => by
    intro X hX
    by_cases c : S &&& (S - 1) = 0
    · simp [pv, c] at hX
    · obtain ⟨⟨a1, a2, a3⟩, a4, a5⟩ := q.2.resolve_left c
      have le := sub_add a1
      simp only [pv, if_neg c, List.mem_cons, List.mem_append] at hX
      rcases hX with rfl | hX | hX
      · exact ⟨q.1.1, hS⟩
      · exact pv_sub n _ (by omega) a5 X hX
      · exact pv_sub n _ (by omega) a4 X hX
theorem MD_in {l1 : Nat → Nat} {c j : Nat} (hc1 : 1 ≤ c) (hc : c ≤ 10) (hg : gd (FI l1) 10 (2 ^ c - 1)) (hj : j < c - 1) : MD l1 c j ∈ pv (FI l1) 10 (2 ^ c - 1) := by
  have hlen := pv_len hg
  rw [pc_all c hc] at hlen
  unfold MD
  rw [List.getD_eq_getElem?_getD]
  cases e : (pv (FI l1) 10 (2 ^ c - 1))[c - 2 - j]? with
  | none =>
    rw [List.getElem?_eq_none_iff] at e
    omega
  | some x => exact List.mem_of_getElem? e
theorem ordOK_congr {l1 l2 : Nat → Nat} {c : Nat} {lg co fi md : Nat → Nat} {ac ml : Nat} (hc1 : 1 ≤ c) (hc : c ≤ 10) (h : ∀ t, t < c → l1 t = l2 t) (q : ordOK l1 c lg co fi md ac ml) : ordOK l2 c lg co fi md ac ml := by
  obtain ⟨q1, q2, q3, q4, q5, q6⟩ := q
  have hp : 2 ^ 1 ≤ 2 ^ c := Nat.pow_le_pow_right (by decide) hc1
  have hco := CO_congr hc h
  obtain ⟨g1, g2⟩ := pv_congr (m := c) (fun s a b => (hco s a b).2) 10 (2 ^ c - 1) (by omega) q3
  have hmd : ∀ j, MD l1 c j = MD l2 c j := fun j => by unfold MD; rw [g2]
  refine ⟨by rw [q1, (hco _ (by omega) (by omega)).1], fun S a b => by rw [q2 S a b]; exact LGn_congr h (by omega) 10, g1, fun X hX => ?_, fun j hj => by rw [q5 j hj, hmd], ?_⟩
  · rw [← g2] at hX
    have := pv_sub (m := c) 10 _ (by omega) q3 X hX
    rw [q4 X hX, (hco X this.1 this.2).2]
  · rw [q6]
    unfold PK
    rw [mlA_congr (f := LG l1) (g := LG l2) c (fun i hi => LGn_congr h (Nat.pow_lt_pow_right (by decide) hi) 10)]
    exact mlB_congr _ (fun i _ => hmd i) (fun i hi => LGn_congr h (by
      rw [← hmd]
      exact (pv_sub (m := c) 10 _ (by omega) q3 _ (MD_in hc1 hc q3 hi)).2) 10)
end
