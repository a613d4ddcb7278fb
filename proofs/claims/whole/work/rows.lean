section
-- ===== PART A: goes FIRST, ahead of the names: the tables' words, and 'selects' of the private methods out of them =====
/-- a private method of a class that the tables say can be made, by its rows of tables_1 -/
def lw_okq (q : MethodName × Nat) : Prop := (q.1.cls ≠ "java/lang/invoke/MethodHandle" ∧ q.1.cls ≠ "java/lang/invoke/VarHandle") ∧ Cond.instantiable q.1.cls q.2 ∈ tables_1 ∧ Cond.privateMethod q.1 ∈ tables_1 ∧ Cond.instanceMethod q.1 ∈ tables_1
theorem lw_p0 : lw_okq (⟨"BackwardYears", "shelfAt", "(I)LBackwardYears$Shelf;"⟩, 10) := ⟨⟨by decide +kernel, by decide +kernel⟩, List.mem_of_getElem? (i := 23) (by decide +kernel), List.mem_of_getElem? (i := 192) (by decide +kernel), List.mem_of_getElem? (i := 193) (by decide +kernel)⟩
theorem lw_p1 : lw_okq (⟨"BackwardYears$Town", "take", "(LBackwardYears$Shelf;I)Z"⟩, 8) := ⟨⟨by decide +kernel, by decide +kernel⟩, List.mem_of_getElem? (i := 31) (by decide +kernel), List.mem_of_getElem? (i := 264) (by decide +kernel), List.mem_of_getElem? (i := 265) (by decide +kernel)⟩
theorem lw_p2 : lw_okq (⟨"BackwardYears$Town", "newDeed", "(LBackwardYears$Shelf;I)LBackwardYears$Deed;"⟩, 8) := ⟨⟨by decide +kernel, by decide +kernel⟩, List.mem_of_getElem? (i := 31) (by decide +kernel), List.mem_of_getElem? (i := 268) (by decide +kernel), List.mem_of_getElem? (i := 269) (by decide +kernel)⟩
theorem lw_p3 : lw_okq (⟨"BackwardYears$Town", "takeDeed", "(LBackwardYears$Deed;)Z"⟩, 8) := ⟨⟨by decide +kernel, by decide +kernel⟩, List.mem_of_getElem? (i := 31) (by decide +kernel), List.mem_of_getElem? (i := 547) (by decide +kernel), List.mem_of_getElem? (i := 548) (by decide +kernel)⟩
theorem lw_p4 : lw_okq (⟨"BackwardYears$Town", "takeMark", "(I)Z"⟩, 8) := ⟨⟨by decide +kernel, by decide +kernel⟩, List.mem_of_getElem? (i := 31) (by decide +kernel), List.mem_of_getElem? (i := 551) (by decide +kernel), List.mem_of_getElem? (i := 552) (by decide +kernel)⟩
theorem lw_p5 : lw_okq (⟨"BackwardYears$Town", "takeNail", "(LBackwardYears$Shelf;I)Z"⟩, 8) := ⟨⟨by decide +kernel, by decide +kernel⟩, List.mem_of_getElem? (i := 31) (by decide +kernel), List.mem_of_getElem? (i := 559) (by decide +kernel), List.mem_of_getElem? (i := 560) (by decide +kernel)⟩
theorem lw_p6 : lw_okq (⟨"BackwardYears", "playList", "(II)I"⟩, 10) := ⟨⟨by decide +kernel, by decide +kernel⟩, List.mem_of_getElem? (i := 23) (by decide +kernel), List.mem_of_getElem? (i := 627) (by decide +kernel), List.mem_of_getElem? (i := 628) (by decide +kernel)⟩
theorem lw_p7 : lw_okq (⟨"BackwardYears", "takeList", "(I)I"⟩, 10) := ⟨⟨by decide +kernel, by decide +kernel⟩, List.mem_of_getElem? (i := 23) (by decide +kernel), List.mem_of_getElem? (i := 634) (by decide +kernel), List.mem_of_getElem? (i := 635) (by decide +kernel)⟩
theorem lw_p8 : lw_okq (⟨"BackwardYears", "listRefusal", "(I)I"⟩, 10) := ⟨⟨by decide +kernel, by decide +kernel⟩, List.mem_of_getElem? (i := 23) (by decide +kernel), List.mem_of_getElem? (i := 638) (by decide +kernel), List.mem_of_getElem? (i := 639) (by decide +kernel)⟩
theorem lw_p9 : lw_okq (⟨"BackwardYears$Years", "deedAt", "(I)LBackwardYears$Deed;"⟩, 14) := ⟨⟨by decide +kernel, by decide +kernel⟩, List.mem_of_getElem? (i := 74) (by decide +kernel), List.mem_of_getElem? (i := 667) (by decide +kernel), List.mem_of_getElem? (i := 668) (by decide +kernel)⟩
theorem lw_p10 : lw_okq (⟨"BackwardYears$Years", "nailAt", "(I)V"⟩, 14) := ⟨⟨by decide +kernel, by decide +kernel⟩, List.mem_of_getElem? (i := 74) (by decide +kernel), List.mem_of_getElem? (i := 690) (by decide +kernel), List.mem_of_getElem? (i := 691) (by decide +kernel)⟩
theorem lw_p11 : lw_okq (⟨"BackwardYears$Years", "stays", "(I)Z"⟩, 14) := ⟨⟨by decide +kernel, by decide +kernel⟩, List.mem_of_getElem? (i := 74) (by decide +kernel), List.mem_of_getElem? (i := 702) (by decide +kernel), List.mem_of_getElem? (i := 703) (by decide +kernel)⟩
theorem lw_p12 : lw_okq (⟨"BackwardYears$Years", "undo", "(I)V"⟩, 14) := ⟨⟨by decide +kernel, by decide +kernel⟩, List.mem_of_getElem? (i := 74) (by decide +kernel), List.mem_of_getElem? (i := 707) (by decide +kernel), List.mem_of_getElem? (i := 708) (by decide +kernel)⟩
theorem lw_p13 : lw_okq (⟨"BackwardYears$Years", "letFall", "()V"⟩, 14) := ⟨⟨by decide +kernel, by decide +kernel⟩, List.mem_of_getElem? (i := 74) (by decide +kernel), List.mem_of_getElem? (i := 714) (by decide +kernel), List.mem_of_getElem? (i := 715) (by decide +kernel)⟩
theorem lw_p14 : lw_okq (⟨"BackwardYears", "endYears", "(I)V"⟩, 10) := ⟨⟨by decide +kernel, by decide +kernel⟩, List.mem_of_getElem? (i := 23) (by decide +kernel), List.mem_of_getElem? (i := 719) (by decide +kernel), List.mem_of_getElem? (i := 720) (by decide +kernel)⟩
theorem lw_p15 : lw_okq (⟨"BackwardYears", "freest", "(LBackwardYears$Shelf;II)I"⟩, 10) := ⟨⟨by decide +kernel, by decide +kernel⟩, List.mem_of_getElem? (i := 23) (by decide +kernel), List.mem_of_getElem? (i := 772) (by decide +kernel), List.mem_of_getElem? (i := 773) (by decide +kernel)⟩
def lw_privs_1 : List (MethodName × Nat) := [(⟨"BackwardYears", "shelfAt", "(I)LBackwardYears$Shelf;"⟩, 10), (⟨"BackwardYears$Town", "take", "(LBackwardYears$Shelf;I)Z"⟩, 8), (⟨"BackwardYears$Town", "newDeed", "(LBackwardYears$Shelf;I)LBackwardYears$Deed;"⟩, 8), (⟨"BackwardYears$Town", "takeDeed", "(LBackwardYears$Deed;)Z"⟩, 8), (⟨"BackwardYears$Town", "takeMark", "(I)Z"⟩, 8), (⟨"BackwardYears$Town", "takeNail", "(LBackwardYears$Shelf;I)Z"⟩, 8), (⟨"BackwardYears", "playList", "(II)I"⟩, 10), (⟨"BackwardYears", "takeList", "(I)I"⟩, 10), (⟨"BackwardYears", "listRefusal", "(I)I"⟩, 10), (⟨"BackwardYears$Years", "deedAt", "(I)LBackwardYears$Deed;"⟩, 14), (⟨"BackwardYears$Years", "nailAt", "(I)V"⟩, 14), (⟨"BackwardYears$Years", "stays", "(I)Z"⟩, 14), (⟨"BackwardYears$Years", "undo", "(I)V"⟩, 14), (⟨"BackwardYears$Years", "letFall", "()V"⟩, 14), (⟨"BackwardYears", "endYears", "(I)V"⟩, 10), (⟨"BackwardYears", "freest", "(LBackwardYears$Shelf;II)I"⟩, 10)]
theorem lw_r1 : ∀ q ∈ lw_privs_1, lw_okq q := List.forall_mem_cons.mpr ⟨lw_p0, List.forall_mem_cons.mpr ⟨lw_p1, List.forall_mem_cons.mpr ⟨lw_p2, List.forall_mem_cons.mpr ⟨lw_p3, List.forall_mem_cons.mpr ⟨lw_p4, List.forall_mem_cons.mpr ⟨lw_p5, List.forall_mem_cons.mpr ⟨lw_p6, List.forall_mem_cons.mpr ⟨lw_p7, List.forall_mem_cons.mpr ⟨lw_p8, List.forall_mem_cons.mpr ⟨lw_p9, List.forall_mem_cons.mpr ⟨lw_p10, List.forall_mem_cons.mpr ⟨lw_p11, List.forall_mem_cons.mpr ⟨lw_p12, List.forall_mem_cons.mpr ⟨lw_p13, List.forall_mem_cons.mpr ⟨lw_p14, List.forall_mem_cons.mpr ⟨lw_p15, fun _ h => absurd h List.not_mem_nil⟩⟩⟩⟩⟩⟩⟩⟩⟩⟩⟩⟩⟩⟩⟩⟩
theorem lw_p16 : lw_okq (⟨"BackwardYears", "takeOrder", "(LBackwardYears$Shelf;)V"⟩, 10) := ⟨⟨by decide +kernel, by decide +kernel⟩, List.mem_of_getElem? (i := 23) (by decide +kernel), List.mem_of_getElem? (i := 776) (by decide +kernel), List.mem_of_getElem? (i := 777) (by decide +kernel)⟩
theorem lw_p17 : lw_okq (⟨"BackwardYears", "orderDigits", "(I)I"⟩, 10) := ⟨⟨by decide +kernel, by decide +kernel⟩, List.mem_of_getElem? (i := 23) (by decide +kernel), List.mem_of_getElem? (i := 781) (by decide +kernel), List.mem_of_getElem? (i := 782) (by decide +kernel)⟩
theorem lw_p18 : lw_okq (⟨"BackwardYears", "nextOrder", "(I)Z"⟩, 10) := ⟨⟨by decide +kernel, by decide +kernel⟩, List.mem_of_getElem? (i := 23) (by decide +kernel), List.mem_of_getElem? (i := 785) (by decide +kernel), List.mem_of_getElem? (i := 786) (by decide +kernel)⟩
theorem lw_p19 : lw_okq (⟨"BackwardYears", "swapPlaces", "(II)V"⟩, 10) := ⟨⟨by decide +kernel, by decide +kernel⟩, List.mem_of_getElem? (i := 23) (by decide +kernel), List.mem_of_getElem? (i := 789) (by decide +kernel), List.mem_of_getElem? (i := 790) (by decide +kernel)⟩
theorem lw_p20 : lw_okq (⟨"BackwardYears", "listMoves", "()V"⟩, 10) := ⟨⟨by decide +kernel, by decide +kernel⟩, List.mem_of_getElem? (i := 23) (by decide +kernel), List.mem_of_getElem? (i := 807) (by decide +kernel), List.mem_of_getElem? (i := 808) (by decide +kernel)⟩
theorem lw_p21 : lw_okq (⟨"BackwardYears", "addMoves", "(III)V"⟩, 10) := ⟨⟨by decide +kernel, by decide +kernel⟩, List.mem_of_getElem? (i := 23) (by decide +kernel), List.mem_of_getElem? (i := 811) (by decide +kernel), List.mem_of_getElem? (i := 812) (by decide +kernel)⟩
theorem lw_p22 : lw_okq (⟨"BackwardYears", "bestMove", "(ILBackwardYears$Shelf;)I"⟩, 10) := ⟨⟨by decide +kernel, by decide +kernel⟩, List.mem_of_getElem? (i := 23) (by decide +kernel), List.mem_of_getElem? (i := 815) (by decide +kernel), List.mem_of_getElem? (i := 816) (by decide +kernel)⟩
theorem lw_p23 : lw_okq (⟨"BackwardYears", "worthOfMove", "(IILBackwardYears$Shelf;)I"⟩, 10) := ⟨⟨by decide +kernel, by decide +kernel⟩, List.mem_of_getElem? (i := 23) (by decide +kernel), List.mem_of_getElem? (i := 819) (by decide +kernel), List.mem_of_getElem? (i := 820) (by decide +kernel)⟩
theorem lw_p24 : lw_okq (⟨"BackwardYears", "playMove", "(III)V"⟩, 10) := ⟨⟨by decide +kernel, by decide +kernel⟩, List.mem_of_getElem? (i := 23) (by decide +kernel), List.mem_of_getElem? (i := 823) (by decide +kernel), List.mem_of_getElem? (i := 824) (by decide +kernel)⟩
theorem lw_p25 : lw_okq (⟨"BackwardYears", "endedSoBefore", "(I)Z"⟩, 10) := ⟨⟨by decide +kernel, by decide +kernel⟩, List.mem_of_getElem? (i := 23) (by decide +kernel), List.mem_of_getElem? (i := 834) (by decide +kernel), List.mem_of_getElem? (i := 835) (by decide +kernel)⟩
theorem lw_p26 : lw_okq (⟨"BackwardYears", "playTwo", "(LBackwardYears$Shelf;LBackwardYears$Shelf;II)I"⟩, 10) := ⟨⟨by decide +kernel, by decide +kernel⟩, List.mem_of_getElem? (i := 23) (by decide +kernel), List.mem_of_getElem? (i := 851) (by decide +kernel), List.mem_of_getElem? (i := 852) (by decide +kernel)⟩
theorem lw_p27 : lw_okq (⟨"BackwardYears", "playSeeds", "(II)I"⟩, 10) := ⟨⟨by decide +kernel, by decide +kernel⟩, List.mem_of_getElem? (i := 23) (by decide +kernel), List.mem_of_getElem? (i := 872) (by decide +kernel), List.mem_of_getElem? (i := 873) (by decide +kernel)⟩
theorem lw_p28 : lw_okq (⟨"BackwardYears", "firstWrong", "(LBackwardYears$Shelf;I)I"⟩, 10) := ⟨⟨by decide +kernel, by decide +kernel⟩, List.mem_of_getElem? (i := 23) (by decide +kernel), List.mem_of_getElem? (i := 889) (by decide +kernel), List.mem_of_getElem? (i := 890) (by decide +kernel)⟩
theorem lw_p29 : lw_okq (⟨"BackwardYears", "counted", "(LBackwardYears$Deed;I)I"⟩, 10) := ⟨⟨by decide +kernel, by decide +kernel⟩, List.mem_of_getElem? (i := 23) (by decide +kernel), List.mem_of_getElem? (i := 910) (by decide +kernel), List.mem_of_getElem? (i := 911) (by decide +kernel)⟩
theorem lw_p30 : lw_okq (⟨"java/lang/Throwable", "fillInStackTrace", "(I)Ljava/lang/Throwable;"⟩, 6) := ⟨⟨by decide +kernel, by decide +kernel⟩, List.mem_of_getElem? (i := 1013) (by decide +kernel), List.mem_of_getElem? (i := 1011) (by decide +kernel), List.mem_of_getElem? (i := 1012) (by decide +kernel)⟩
theorem lw_p31 : lw_okq (⟨"BackwardYearsModel", "wrongRow", "(II)I"⟩, 41) := ⟨⟨by decide +kernel, by decide +kernel⟩, List.mem_of_getElem? (i := 1071) (by decide +kernel), List.mem_of_getElem? (i := 1209) (by decide +kernel), List.mem_of_getElem? (i := 1210) (by decide +kernel)⟩
def lw_privs_2 : List (MethodName × Nat) := [(⟨"BackwardYears", "takeOrder", "(LBackwardYears$Shelf;)V"⟩, 10), (⟨"BackwardYears", "orderDigits", "(I)I"⟩, 10), (⟨"BackwardYears", "nextOrder", "(I)Z"⟩, 10), (⟨"BackwardYears", "swapPlaces", "(II)V"⟩, 10), (⟨"BackwardYears", "listMoves", "()V"⟩, 10), (⟨"BackwardYears", "addMoves", "(III)V"⟩, 10), (⟨"BackwardYears", "bestMove", "(ILBackwardYears$Shelf;)I"⟩, 10), (⟨"BackwardYears", "worthOfMove", "(IILBackwardYears$Shelf;)I"⟩, 10), (⟨"BackwardYears", "playMove", "(III)V"⟩, 10), (⟨"BackwardYears", "endedSoBefore", "(I)Z"⟩, 10), (⟨"BackwardYears", "playTwo", "(LBackwardYears$Shelf;LBackwardYears$Shelf;II)I"⟩, 10), (⟨"BackwardYears", "playSeeds", "(II)I"⟩, 10), (⟨"BackwardYears", "firstWrong", "(LBackwardYears$Shelf;I)I"⟩, 10), (⟨"BackwardYears", "counted", "(LBackwardYears$Deed;I)I"⟩, 10), (⟨"java/lang/Throwable", "fillInStackTrace", "(I)Ljava/lang/Throwable;"⟩, 6), (⟨"BackwardYearsModel", "wrongRow", "(II)I"⟩, 41)]
theorem lw_r2 : ∀ q ∈ lw_privs_2, lw_okq q := List.forall_mem_cons.mpr ⟨lw_p16, List.forall_mem_cons.mpr ⟨lw_p17, List.forall_mem_cons.mpr ⟨lw_p18, List.forall_mem_cons.mpr ⟨lw_p19, List.forall_mem_cons.mpr ⟨lw_p20, List.forall_mem_cons.mpr ⟨lw_p21, List.forall_mem_cons.mpr ⟨lw_p22, List.forall_mem_cons.mpr ⟨lw_p23, List.forall_mem_cons.mpr ⟨lw_p24, List.forall_mem_cons.mpr ⟨lw_p25, List.forall_mem_cons.mpr ⟨lw_p26, List.forall_mem_cons.mpr ⟨lw_p27, List.forall_mem_cons.mpr ⟨lw_p28, List.forall_mem_cons.mpr ⟨lw_p29, List.forall_mem_cons.mpr ⟨lw_p30, List.forall_mem_cons.mpr ⟨lw_p31, fun _ h => absurd h List.not_mem_nil⟩⟩⟩⟩⟩⟩⟩⟩⟩⟩⟩⟩⟩⟩⟩⟩
theorem lw_p32 : lw_okq (⟨"BackwardYearsModel", "readsStatement", "()Z"⟩, 41) := ⟨⟨by decide +kernel, by decide +kernel⟩, List.mem_of_getElem? (i := 1071) (by decide +kernel), List.mem_of_getElem? (i := 1220) (by decide +kernel), List.mem_of_getElem? (i := 1221) (by decide +kernel)⟩
theorem lw_p33 : lw_okq (⟨"BackwardYearsModel", "here", "()I"⟩, 41) := ⟨⟨by decide +kernel, by decide +kernel⟩, List.mem_of_getElem? (i := 1071) (by decide +kernel), List.mem_of_getElem? (i := 1224) (by decide +kernel), List.mem_of_getElem? (i := 1225) (by decide +kernel)⟩
theorem lw_p34 : lw_okq (⟨"BackwardYearsModel", "readsDeed", "()Z"⟩, 41) := ⟨⟨by decide +kernel, by decide +kernel⟩, List.mem_of_getElem? (i := 1071) (by decide +kernel), List.mem_of_getElem? (i := 1228) (by decide +kernel), List.mem_of_getElem? (i := 1229) (by decide +kernel)⟩
theorem lw_p35 : lw_okq (⟨"BackwardYearsModel", "readsNumber", "(I)Z"⟩, 41) := ⟨⟨by decide +kernel, by decide +kernel⟩, List.mem_of_getElem? (i := 1071) (by decide +kernel), List.mem_of_getElem? (i := 1232) (by decide +kernel), List.mem_of_getElem? (i := 1233) (by decide +kernel)⟩
theorem lw_p36 : lw_okq (⟨"BackwardYearsModel", "isDigit", "()Z"⟩, 41) := ⟨⟨by decide +kernel, by decide +kernel⟩, List.mem_of_getElem? (i := 1071) (by decide +kernel), List.mem_of_getElem? (i := 1236) (by decide +kernel), List.mem_of_getElem? (i := 1237) (by decide +kernel)⟩
theorem lw_p37 : lw_okq (⟨"BackwardYearsModel", "takes", "(I)Z"⟩, 41) := ⟨⟨by decide +kernel, by decide +kernel⟩, List.mem_of_getElem? (i := 1071) (by decide +kernel), List.mem_of_getElem? (i := 1243) (by decide +kernel), List.mem_of_getElem? (i := 1244) (by decide +kernel)⟩
theorem lw_p38 : lw_okq (⟨"BackwardYearsModel", "readsMark", "()Z"⟩, 41) := ⟨⟨by decide +kernel, by decide +kernel⟩, List.mem_of_getElem? (i := 1071) (by decide +kernel), List.mem_of_getElem? (i := 1247) (by decide +kernel), List.mem_of_getElem? (i := 1248) (by decide +kernel)⟩
theorem lw_p39 : lw_okq (⟨"BackwardYearsModel", "comes", "(I)Z"⟩, 41) := ⟨⟨by decide +kernel, by decide +kernel⟩, List.mem_of_getElem? (i := 1071) (by decide +kernel), List.mem_of_getElem? (i := 1252) (by decide +kernel), List.mem_of_getElem? (i := 1253) (by decide +kernel)⟩
theorem lw_p40 : lw_okq (⟨"BackwardYearsModel", "isDeed", "(I)Z"⟩, 41) := ⟨⟨by decide +kernel, by decide +kernel⟩, List.mem_of_getElem? (i := 1071) (by decide +kernel), List.mem_of_getElem? (i := 1260) (by decide +kernel), List.mem_of_getElem? (i := 1261) (by decide +kernel)⟩
theorem lw_p41 : lw_okq (⟨"BackwardYearsModel", "get", "(II)I"⟩, 41) := ⟨⟨by decide +kernel, by decide +kernel⟩, List.mem_of_getElem? (i := 1071) (by decide +kernel), List.mem_of_getElem? (i := 1265) (by decide +kernel), List.mem_of_getElem? (i := 1266) (by decide +kernel)⟩
theorem lw_p42 : lw_okq (⟨"BackwardYearsModel", "costOf", "(I)I"⟩, 41) := ⟨⟨by decide +kernel, by decide +kernel⟩, List.mem_of_getElem? (i := 1071) (by decide +kernel), List.mem_of_getElem? (i := 1269) (by decide +kernel), List.mem_of_getElem? (i := 1270) (by decide +kernel)⟩
theorem lw_p43 : lw_okq (⟨"BackwardYearsModel", "backOf", "(I)I"⟩, 41) := ⟨⟨by decide +kernel, by decide +kernel⟩, List.mem_of_getElem? (i := 1071) (by decide +kernel), List.mem_of_getElem? (i := 1273) (by decide +kernel), List.mem_of_getElem? (i := 1274) (by decide +kernel)⟩
theorem lw_p44 : lw_okq (⟨"BackwardYearsModel", "isKept", "(I)Z"⟩, 41) := ⟨⟨by decide +kernel, by decide +kernel⟩, List.mem_of_getElem? (i := 1071) (by decide +kernel), List.mem_of_getElem? (i := 1277) (by decide +kernel), List.mem_of_getElem? (i := 1278) (by decide +kernel)⟩
theorem lw_p45 : lw_okq (⟨"BackwardYearsModel", "mayBy", "(III)Z"⟩, 41) := ⟨⟨by decide +kernel, by decide +kernel⟩, List.mem_of_getElem? (i := 1071) (by decide +kernel), List.mem_of_getElem? (i := 1305) (by decide +kernel), List.mem_of_getElem? (i := 1306) (by decide +kernel)⟩
theorem lw_p46 : lw_okq (⟨"BackwardYearsModel", "wrongList", "(I)I"⟩, 41) := ⟨⟨by decide +kernel, by decide +kernel⟩, List.mem_of_getElem? (i := 1071) (by decide +kernel), List.mem_of_getElem? (i := 1317) (by decide +kernel), List.mem_of_getElem? (i := 1318) (by decide +kernel)⟩
theorem lw_p47 : lw_okq (⟨"BackwardYearsModel", "lays", "(II)V"⟩, 41) := ⟨⟨by decide +kernel, by decide +kernel⟩, List.mem_of_getElem? (i := 1071) (by decide +kernel), List.mem_of_getElem? (i := 1321) (by decide +kernel), List.mem_of_getElem? (i := 1322) (by decide +kernel)⟩
def lw_privs_3 : List (MethodName × Nat) := [(⟨"BackwardYearsModel", "readsStatement", "()Z"⟩, 41), (⟨"BackwardYearsModel", "here", "()I"⟩, 41), (⟨"BackwardYearsModel", "readsDeed", "()Z"⟩, 41), (⟨"BackwardYearsModel", "readsNumber", "(I)Z"⟩, 41), (⟨"BackwardYearsModel", "isDigit", "()Z"⟩, 41), (⟨"BackwardYearsModel", "takes", "(I)Z"⟩, 41), (⟨"BackwardYearsModel", "readsMark", "()Z"⟩, 41), (⟨"BackwardYearsModel", "comes", "(I)Z"⟩, 41), (⟨"BackwardYearsModel", "isDeed", "(I)Z"⟩, 41), (⟨"BackwardYearsModel", "get", "(II)I"⟩, 41), (⟨"BackwardYearsModel", "costOf", "(I)I"⟩, 41), (⟨"BackwardYearsModel", "backOf", "(I)I"⟩, 41), (⟨"BackwardYearsModel", "isKept", "(I)Z"⟩, 41), (⟨"BackwardYearsModel", "mayBy", "(III)Z"⟩, 41), (⟨"BackwardYearsModel", "wrongList", "(I)I"⟩, 41), (⟨"BackwardYearsModel", "lays", "(II)V"⟩, 41)]
theorem lw_r3 : ∀ q ∈ lw_privs_3, lw_okq q := List.forall_mem_cons.mpr ⟨lw_p32, List.forall_mem_cons.mpr ⟨lw_p33, List.forall_mem_cons.mpr ⟨lw_p34, List.forall_mem_cons.mpr ⟨lw_p35, List.forall_mem_cons.mpr ⟨lw_p36, List.forall_mem_cons.mpr ⟨lw_p37, List.forall_mem_cons.mpr ⟨lw_p38, List.forall_mem_cons.mpr ⟨lw_p39, List.forall_mem_cons.mpr ⟨lw_p40, List.forall_mem_cons.mpr ⟨lw_p41, List.forall_mem_cons.mpr ⟨lw_p42, List.forall_mem_cons.mpr ⟨lw_p43, List.forall_mem_cons.mpr ⟨lw_p44, List.forall_mem_cons.mpr ⟨lw_p45, List.forall_mem_cons.mpr ⟨lw_p46, List.forall_mem_cons.mpr ⟨lw_p47, fun _ h => absurd h List.not_mem_nil⟩⟩⟩⟩⟩⟩⟩⟩⟩⟩⟩⟩⟩⟩⟩⟩
theorem lw_p48 : lw_okq (⟨"BackwardYearsModel", "begins", "()V"⟩, 41) := ⟨⟨by decide +kernel, by decide +kernel⟩, List.mem_of_getElem? (i := 1071) (by decide +kernel), List.mem_of_getElem? (i := 1325) (by decide +kernel), List.mem_of_getElem? (i := 1326) (by decide +kernel)⟩
theorem lw_p49 : lw_okq (⟨"BackwardYearsModel", "pairOf", "()V"⟩, 41) := ⟨⟨by decide +kernel, by decide +kernel⟩, List.mem_of_getElem? (i := 1071) (by decide +kernel), List.mem_of_getElem? (i := 1329) (by decide +kernel), List.mem_of_getElem? (i := 1330) (by decide +kernel)⟩
theorem lw_p50 : lw_okq (⟨"BackwardYearsModel", "evenYear", "()V"⟩, 41) := ⟨⟨by decide +kernel, by decide +kernel⟩, List.mem_of_getElem? (i := 1071) (by decide +kernel), List.mem_of_getElem? (i := 1333) (by decide +kernel), List.mem_of_getElem? (i := 1334) (by decide +kernel)⟩
theorem lw_p51 : lw_okq (⟨"BackwardYearsModel", "marksBy", "(II)I"⟩, 41) := ⟨⟨by decide +kernel, by decide +kernel⟩, List.mem_of_getElem? (i := 1071) (by decide +kernel), List.mem_of_getElem? (i := 1337) (by decide +kernel), List.mem_of_getElem? (i := 1338) (by decide +kernel)⟩
theorem lw_p52 : lw_okq (⟨"BackwardYearsModel", "priceOf", "(I)I"⟩, 41) := ⟨⟨by decide +kernel, by decide +kernel⟩, List.mem_of_getElem? (i := 1071) (by decide +kernel), List.mem_of_getElem? (i := 1341) (by decide +kernel), List.mem_of_getElem? (i := 1342) (by decide +kernel)⟩
theorem lw_p53 : lw_okq (⟨"BackwardYearsModel", "oddYear", "()V"⟩, 41) := ⟨⟨by decide +kernel, by decide +kernel⟩, List.mem_of_getElem? (i := 1071) (by decide +kernel), List.mem_of_getElem? (i := 1345) (by decide +kernel), List.mem_of_getElem? (i := 1346) (by decide +kernel)⟩
theorem lw_p54 : lw_okq (⟨"BackwardYearsModel", "isHeld", "(I)Z"⟩, 41) := ⟨⟨by decide +kernel, by decide +kernel⟩, List.mem_of_getElem? (i := 1071) (by decide +kernel), List.mem_of_getElem? (i := 1349) (by decide +kernel), List.mem_of_getElem? (i := 1350) (by decide +kernel)⟩
theorem lw_p55 : lw_okq (⟨"BackwardYearsModel", "holds", "(I)Z"⟩, 41) := ⟨⟨by decide +kernel, by decide +kernel⟩, List.mem_of_getElem? (i := 1071) (by decide +kernel), List.mem_of_getElem? (i := 1353) (by decide +kernel), List.mem_of_getElem? (i := 1354) (by decide +kernel)⟩
theorem lw_p56 : lw_okq (⟨"BackwardYearsModel", "undoes", "(II)V"⟩, 41) := ⟨⟨by decide +kernel, by decide +kernel⟩, List.mem_of_getElem? (i := 1071) (by decide +kernel), List.mem_of_getElem? (i := 1357) (by decide +kernel), List.mem_of_getElem? (i := 1358) (by decide +kernel)⟩
theorem lw_p57 : lw_okq (⟨"BackwardYearsModel", "falls", "()V"⟩, 41) := ⟨⟨by decide +kernel, by decide +kernel⟩, List.mem_of_getElem? (i := 1071) (by decide +kernel), List.mem_of_getElem? (i := 1361) (by decide +kernel), List.mem_of_getElem? (i := 1362) (by decide +kernel)⟩
theorem lw_p58 : lw_okq (⟨"BackwardYearsModel", "standing", "()I"⟩, 41) := ⟨⟨by decide +kernel, by decide +kernel⟩, List.mem_of_getElem? (i := 1071) (by decide +kernel), List.mem_of_getElem? (i := 1365) (by decide +kernel), List.mem_of_getElem? (i := 1366) (by decide +kernel)⟩
theorem lw_p59 : lw_okq (⟨"BackwardYearsModel", "finds", "(I)Z"⟩, 41) := ⟨⟨by decide +kernel, by decide +kernel⟩, List.mem_of_getElem? (i := 1071) (by decide +kernel), List.mem_of_getElem? (i := 1394) (by decide +kernel), List.mem_of_getElem? (i := 1395) (by decide +kernel)⟩
theorem lw_p60 : lw_okq (⟨"BackwardYearsModel", "lines", "(IIII)V"⟩, 41) := ⟨⟨by decide +kernel, by decide +kernel⟩, List.mem_of_getElem? (i := 1071) (by decide +kernel), List.mem_of_getElem? (i := 1405) (by decide +kernel), List.mem_of_getElem? (i := 1406) (by decide +kernel)⟩
theorem lw_p61 : lw_okq (⟨"BackwardYearsModel", "plans", "(IIII)V"⟩, 41) := ⟨⟨by decide +kernel, by decide +kernel⟩, List.mem_of_getElem? (i := 1071) (by decide +kernel), List.mem_of_getElem? (i := 1418) (by decide +kernel), List.mem_of_getElem? (i := 1419) (by decide +kernel)⟩
theorem lw_p62 : lw_okq (⟨"BackwardYearsModel", "tries", "(IIIIIII)V"⟩, 41) := ⟨⟨by decide +kernel, by decide +kernel⟩, List.mem_of_getElem? (i := 1071) (by decide +kernel), List.mem_of_getElem? (i := 1422) (by decide +kernel), List.mem_of_getElem? (i := 1423) (by decide +kernel)⟩
theorem lw_p63 : lw_okq (⟨"BackwardYearsModel", "worthOf", "(I)J"⟩, 41) := ⟨⟨by decide +kernel, by decide +kernel⟩, List.mem_of_getElem? (i := 1071) (by decide +kernel), List.mem_of_getElem? (i := 1426) (by decide +kernel), List.mem_of_getElem? (i := 1427) (by decide +kernel)⟩
def lw_privs_4 : List (MethodName × Nat) := [(⟨"BackwardYearsModel", "begins", "()V"⟩, 41), (⟨"BackwardYearsModel", "pairOf", "()V"⟩, 41), (⟨"BackwardYearsModel", "evenYear", "()V"⟩, 41), (⟨"BackwardYearsModel", "marksBy", "(II)I"⟩, 41), (⟨"BackwardYearsModel", "priceOf", "(I)I"⟩, 41), (⟨"BackwardYearsModel", "oddYear", "()V"⟩, 41), (⟨"BackwardYearsModel", "isHeld", "(I)Z"⟩, 41), (⟨"BackwardYearsModel", "holds", "(I)Z"⟩, 41), (⟨"BackwardYearsModel", "undoes", "(II)V"⟩, 41), (⟨"BackwardYearsModel", "falls", "()V"⟩, 41), (⟨"BackwardYearsModel", "standing", "()I"⟩, 41), (⟨"BackwardYearsModel", "finds", "(I)Z"⟩, 41), (⟨"BackwardYearsModel", "lines", "(IIII)V"⟩, 41), (⟨"BackwardYearsModel", "plans", "(IIII)V"⟩, 41), (⟨"BackwardYearsModel", "tries", "(IIIIIII)V"⟩, 41), (⟨"BackwardYearsModel", "worthOf", "(I)J"⟩, 41)]
theorem lw_r4 : ∀ q ∈ lw_privs_4, lw_okq q := List.forall_mem_cons.mpr ⟨lw_p48, List.forall_mem_cons.mpr ⟨lw_p49, List.forall_mem_cons.mpr ⟨lw_p50, List.forall_mem_cons.mpr ⟨lw_p51, List.forall_mem_cons.mpr ⟨lw_p52, List.forall_mem_cons.mpr ⟨lw_p53, List.forall_mem_cons.mpr ⟨lw_p54, List.forall_mem_cons.mpr ⟨lw_p55, List.forall_mem_cons.mpr ⟨lw_p56, List.forall_mem_cons.mpr ⟨lw_p57, List.forall_mem_cons.mpr ⟨lw_p58, List.forall_mem_cons.mpr ⟨lw_p59, List.forall_mem_cons.mpr ⟨lw_p60, List.forall_mem_cons.mpr ⟨lw_p61, List.forall_mem_cons.mpr ⟨lw_p62, List.forall_mem_cons.mpr ⟨lw_p63, fun _ h => absurd h List.not_mem_nil⟩⟩⟩⟩⟩⟩⟩⟩⟩⟩⟩⟩⟩⟩⟩⟩
theorem lw_p64 : lw_okq (⟨"BackwardYearsModel", "drawn", "(I)I"⟩, 41) := ⟨⟨by decide +kernel, by decide +kernel⟩, List.mem_of_getElem? (i := 1071) (by decide +kernel), List.mem_of_getElem? (i := 1459) (by decide +kernel), List.mem_of_getElem? (i := 1460) (by decide +kernel)⟩
theorem lw_p65 : lw_okq (⟨"BackwardYearsModel", "leastOf", "(I)I"⟩, 41) := ⟨⟨by decide +kernel, by decide +kernel⟩, List.mem_of_getElem? (i := 1071) (by decide +kernel), List.mem_of_getElem? (i := 1470) (by decide +kernel), List.mem_of_getElem? (i := 1471) (by decide +kernel)⟩
theorem lw_p66 : lw_okq (⟨"BackwardYearsModel", "careOf", "(I)I"⟩, 41) := ⟨⟨by decide +kernel, by decide +kernel⟩, List.mem_of_getElem? (i := 1071) (by decide +kernel), List.mem_of_getElem? (i := 1492) (by decide +kernel), List.mem_of_getElem? (i := 1493) (by decide +kernel)⟩
theorem lw_p67 : lw_okq (⟨"BackwardYearsModel", "wrongKept", "(I)I"⟩, 41) := ⟨⟨by decide +kernel, by decide +kernel⟩, List.mem_of_getElem? (i := 1071) (by decide +kernel), List.mem_of_getElem? (i := 1516) (by decide +kernel), List.mem_of_getElem? (i := 1517) (by decide +kernel)⟩
def lw_privs_5 : List (MethodName × Nat) := [(⟨"BackwardYearsModel", "drawn", "(I)I"⟩, 41), (⟨"BackwardYearsModel", "leastOf", "(I)I"⟩, 41), (⟨"BackwardYearsModel", "careOf", "(I)I"⟩, 41), (⟨"BackwardYearsModel", "wrongKept", "(I)I"⟩, 41)]
theorem lw_r5 : ∀ q ∈ lw_privs_5, lw_okq q := List.forall_mem_cons.mpr ⟨lw_p64, List.forall_mem_cons.mpr ⟨lw_p65, List.forall_mem_cons.mpr ⟨lw_p66, List.forall_mem_cons.mpr ⟨lw_p67, fun _ h => absurd h List.not_mem_nil⟩⟩⟩⟩
def lw_privs : List (MethodName × Nat) := lw_privs_1 ++ (lw_privs_2 ++ (lw_privs_3 ++ (lw_privs_4 ++ (lw_privs_5))))
def lw_tbl : List Cond := k2_sels lw_privs ++ tables_1
theorem lw_privs_ok : ∀ q ∈ lw_privs, lw_okq q := by
  show ∀ q ∈ lw_privs_1 ++ (lw_privs_2 ++ (lw_privs_3 ++ (lw_privs_4 ++ (lw_privs_5)))), lw_okq q
  exact List.forall_mem_append.mpr ⟨lw_r1, List.forall_mem_append.mpr ⟨lw_r2, List.forall_mem_append.mpr ⟨lw_r3, List.forall_mem_append.mpr ⟨lw_r4, lw_r5⟩⟩⟩⟩
/-! ===== BEGIN words of one list among another's, by their places ===== -/
theorem goodIn_r {big : List Cond} (ws : List Cond) (ps : List Nat) (hp : ws = ps.filterMap (fun i => big[i]?)) (h : ws.all goodWord = true) : GoodIn big ws := by
  intro w hw
  have h1 := List.all_eq_true.mp h w hw
  rw [hp] at hw
  obtain ⟨i, -, hi⟩ := List.mem_filterMap.mp hw
  have hm : w ∈ big := by first | exact List.mem_of_getElem? hi | exact List.getElem?_mem hi
  exact ⟨hm, good_of_word h1⟩
theorem goodIn_app {big a b : List Cond} (ha : GoodIn big a) (hb : GoodIn big b) : GoodIn big (a ++ b) := fun w h => (List.mem_append.mp h).elim (ha w) (hb w)
theorem goodIn_ca {big a b : List Cond} {c : Cond} (ha : GoodIn big (c :: a)) (hb : GoodIn big b) : GoodIn big (c :: (a ++ b)) := fun w h => (List.mem_cons.mp h).elim (fun e => ha w (List.mem_cons.mpr (Or.inl e))) (fun h => (List.mem_append.mp h).elim (fun h => ha w (List.mem_cons.mpr (Or.inr h))) (hb w))
theorem goodIn_sub {big ws : List Cond} (hm : ∀ w ∈ ws, w ∈ big) (h : ws.all goodWord = true) : GoodIn big ws := fun w hw => ⟨hm w hw, good_of_word (List.all_eq_true.mp h w hw)⟩
/-! ===== END ===== -/

/-! ===== BEGIN exceptions that leave a method, and their catching by the caller (launches without stack traces) ===== -/
section VXA
/-! The laws vx_back, vx_callV, vx_callS, vx_callSW, vx_throw0, vx_throwS follow proofs of the library, with one case more: JvmDerived/Free/Laws.lean (Back.of_free), Shelf42/LK1.lean (callV, callS), Shelf/KitTraced.lean (throwNew0V, throwNewS). -/
/-- where a method has thrown q: the class by its name, the cell, what was written, the world -/
def vx_T (XC : String → State → State → Prop) (st : State) (q : Addr) (t : State) (mc ms : Nat) (free : Addr → Prop) : Prop :=
  ∃ (E : String) (ce : Cell) (L : List Loc), XC E st t ∧ t.heap[q]? = some ce ∧ ce.vm = .none ∧ st.vm.findClass E = some ce.cls ∧ st.WarmedH t.vm ∧ st.sameButNew ({ t with vm := st.vm } : State) L mc ms ∧ ∀ z ∈ L, free z.base
def vx_Q (Qc : Array Value → State → Outcome → State → Prop) (XC : String → State → State → Prop) (mc ms : Nat) (free : Addr → Prop) : Array Value → State → Outcome → State → Prop := fun a st o t =>
  (Qc a st o t ∧ ∃ L, FrameEnd st o t L mc ms ∧ ∀ q ∈ L, free q.base) ∨ ∃ q, o = .threw q ∧ vx_T XC st q t mc ms free
/-- a callee that returns or throws -/
def vx_Met (l : Launch) (y : MethodName) (ws : List Cond) (rm : Room) (Pc : Array Value → State → Prop) (Qc : Array Value → State → Outcome → State → Prop) (XC : String → State → State → Prop) (mc ms : Nat) (free : Addr → Prop) : Prop :=
  MetFree l y (headSpec ws rm) Pc (fun _ _ _ _ _ => True) (vx_Q Qc XC mc ms free)
def vx_Post (XC : String → State → State → Prop) (mc ms : Nat) (free : Addr → Prop) : Pt → Array Value → Addr → Pt → Prop := fun A a q B =>
  ∃ (g : JFrame) (mk : MethodId) (t : State) (L : List Loc) (E : String) (ce : Cell), B.U.heap = t.heap ∧ B.U.vm = t.vm ∧ XC E (A.U.calling g mk a) t ∧ t.heap[q]? = some ce ∧ ce.vm = .none ∧ A.U.vm.findClass E = some ce.cls ∧ B.locs = A.locs ++ L ∧ (∀ z ∈ L, free z.base) ∧ B.cells = A.cells + mc ∧ B.slots = A.slots + ms
def vx_Back (l : Launch) (R : Room) (p : Program) (e : Env) (below : List Frame) (s : State) (sargs : Array Value) (y : MethodName) (len W9 : Nat)
    (Pre : Pt → Array Value → Prop) (Post : Pt → Array Value → Option Value → Pt → Prop) (PostX : Pt → Array Value → Addr → Pt → Prop) : Prop :=
  ∀ (m : MethodId) (meth : Method) (c : Code) (A : Pt) (g : JFrame) (ig : Instr) (mk : MethodId) (a : Array Value),
    Stand p l e R s m sargs below meth c A.U A.locs A.cells A.slots → g.method = m → g.locals.size = c.maxLocals → decode c.code g.pc = .ok (ig, len) →
    2 * g.monitorRoom + (g.stack.map fun v => v.category).sum ≤ W9 → A.U.methodNamed? y = some mk → Pre A a →
    (∃ (v : Option Value) (B : Pt), Stand p l e R s m sargs below meth c B.U B.locs B.cells B.slots ∧ Post A a v B ∧
      Steps p.tables e below (doInvoke e (A.U.setTop g) [] mk a).1 (B.U.setTop { g with pc := g.pc + len, stack := v.toList ++ g.stack })) ∨
    (∃ (q : Addr) (B : Pt), Stand p l e R s m sargs below meth c B.U B.locs B.cells B.slots ∧ PostX A a q B ∧
      Steps p.tables e below (doInvoke e (A.U.setTop g) [] mk a).1 ((B.U.setTop g).pushFrame (.throwing q)))
section Payer
variable {l : Launch} {R : Room} {p : Program} {e : Env} {below : List Frame} {s : State} {sargs : Array Value} {y : MethodName} {len W9 : Nat}
theorem vx_back {ws : List Cond} {rm : Room} {Pc : Array Value → State → Prop} {Qc : Array Value → State → Outcome → State → Prop} {XC : String → State → State → Prop} {mc ms : Nat} {free : Addr → Prop} {bytes : ByteArray} {maxL : Nat} {ret : Option FieldType}
    (hM : vx_Met l y ws rm Pc Qc XC mc ms free) (hblind : FrameBlind Pc) (hrc : rm.cells = mc) (hrs : rm.slots = ms)
    (hframes : rm.frames + 1 ≤ R.frames) (hlocals : W9 + (maxL + 11) + rm.locals ≤ R.locals)
    (hws : ∀ w ∈ ws, ∀ a' U, s.WarmedH U.vm → w.before a' U = true) (hcode : Cond.code y bytes maxL ret ∈ ws) (hinit : ∀ a' U, s.WarmedH U.vm → (Cond.initialized y.cls).before a' U = true) :
    vx_Back l R p e below s sargs y len W9 (PreOf R mc ms Pc) (PostOf Qc mc ms free) (vx_Post XC mc ms free) := by
  intro m meth c A g ig mk a X hg hsize hdg hW hn hp
  have h1 : (headSpec ws rm).pre.before a A.U = true := atoms_intro fun w hw => hws w hw _ _ X.warmed
  have h2 : (Cond.code y bytes maxL ret).before a A.U = true := hws _ hcode _ _ X.warmed
  have h3 : (Cond.initialized y.cls).before a A.U = true := hinit _ _ X.warmed
  have h4 : A.cells + (headSpec ws rm).room.cells ≤ R.cells := by rw [show (headSpec ws rm).room.cells = mc from hrc]; exact hp.1
  have h5 : A.slots + (headSpec ws rm).room.slots ≤ R.slots := by rw [show (headSpec ws rm).room.slots = ms from hrs]; exact hp.2.1
  have hPc : Pc a (A.U.calling g mk a) := hblind _ _ _ _ hp.2.2
  obtain ⟨U, Ls, c0, s0⟩ := A
  dsimp only [Pt.U, Pt.locs, Pt.cells, Pt.slots] at h1 h2 h3 h4 h5 X hn hPc ⊢
  obtain ⟨methY, cY, hmY, hcY, -, hlY, -, -, -, -⟩ := Cond.code_spec hn h2
  obtain ⟨kY, hkY, -⟩ := className_of_methodNamed hn
  have hinitY : kY.init = .initialized := Cond.initialized_spec (findClass_of_methodNamed hn) hkY h3
  have h : At U g.method c below := by rw [hg]; exact X.here
  have hlocals9 : W9 + (maxL + 11) + (headSpec ws rm).room.locals ≤ R.locals := hlocals
  have happ : (headSpec ws rm).appliesLoose y e.platform (U.calling g mk a) = true :=
    Spec.appliesLoose_calling (g := g) h hdg hn hkY hinitY
      (X.room_calling (g := g) (R' := (headSpec ws rm).room) hsize hmY hcY hframes (by rw [hlY]; omega) h4 h5) h1
  obtain ⟨mid, hmid⟩ := h.above
  have hfr : (U.setTop g).frames = (.java g :: mid) ++ below := by rw [State.frames_setTop' g h.top, hmid]; rfl
  obtain ⟨o, s₂, hsteps, -, hend, hq⟩ := Steps.callFree hM p X.admits X.cas X.clock (acts := []) hfr happ hPc trivial
  have hq' : vx_Q Qc XC mc ms free a (U.calling g mk a) o s₂ := hq
  rw [State.frames_setTop' g h.top] at hend
  obtain ⟨g₀, hg0⟩ := Option.isSome_iff_exists.mp h.top
  obtain ⟨r, hr⟩ := State.topJava?_eq_some.mp hg0
  have hr' : (({ U with heap := s₂.heap, slotsUsed := s₂.slotsUsed } : State).setVm s₂.vm).frames = .java g₀ :: r := hr
  rcases hq' with ⟨hqc, L, hfe, hL⟩ | ⟨q, rfl, E, ce, L, hx, hce, hcv, hcl, hW₂, hsm, hL⟩
  · obtain ⟨⟨v, rfl⟩, hW₂, e2, q2, q3, q4, q5, q6⟩ := id hfe
    have e3 : s₂ = ({ (U.calling g mk a).setFrames s₂.frames with heap := s₂.heap, slotsUsed := s₂.slotsUsed } : State).setVm s₂.vm := by
      have : s₂ = ({ s₂ with vm := (U.calling g mk a).vm } : State).setVm s₂.vm := rfl
      rw [e2] at this
      exact this
    obtain ⟨c₂, i₂, len₂, hc₂, hd₂, hf₂⟩ := hend
    have hW' : U.WarmedH s₂.vm := hW₂
    have hcc : c₂ = c := by
      have h1 : s₂.code? g.method = U.code? g.method := by
        rw [State.code?_eq, State.code?_eq, hW'.alike.method?]
      exact Option.some.inj (hc₂.symm.trans (h1.trans h.code))
    subst hcc
    have hlen : len₂ = len := by rw [hdg] at hd₂; cases hd₂; rfl
    subst hlen
    have hs₂ : s₂ = (({ U with heap := s₂.heap, slotsUsed := s₂.slotsUsed } : State).setVm s₂.vm).setTop { g with pc := g.pc + len₂, stack := v.toList ++ g.stack } := by
      refine e3.trans ?_
      rw [hf₂, State.calling_eq h.top, State.setFrames_setFrames, State.setTop_of_frames _ hr', hr]
      rfl
    have hsame : U.sameButNew ({ U with heap := s₂.heap, slotsUsed := s₂.slotsUsed } : State) L mc ms := by
      refine ⟨?_, q2, q3, q4, q5, q6⟩
      obtain ⟨t, ht, -⟩ := State.frames_cons hr
      show ({ U with heap := s₂.heap, slotsUsed := s₂.slotsUsed } : State) = { U.setFrames U.frames with heap := s₂.heap, slotsUsed := s₂.slotsUsed }
      rw [State.setFrames_self ht]
    subst hg
    refine Or.inl ⟨v, ⟨(({ U with heap := s₂.heap, slotsUsed := s₂.slotsUsed } : State).setVm s₂.vm), Ls ++ L, c0 + mc, s0 + ms⟩,
      ⟨X.admits, X.cas, X.clock, X.frames, X.room, X.hears, X.method, X.code, (X.here.setHeapUsed s₂.heap s₂.slotsUsed).setVm hW'.alike, X.tail, State.WarmedH.trans X.warmed hW', X.limits, X.bytes, X.same.trans (hsame.setVm s.vm)⟩,
      ⟨g, mk, s₂, L, rfl, rfl, hqc, rfl, hL, rfl, rfl⟩, ?_⟩
    show Steps p.tables e below _ ((({ U with heap := s₂.heap, slotsUsed := s₂.slotsUsed } : State).setVm s₂.vm).setTop { g with pc := g.pc + len₂, stack := v.toList ++ g.stack })
    rw [← hs₂]
    exact hsteps
  · obtain ⟨e2, q2, q3, q4, q5, q6⟩ := id hsm
    have e3 : s₂ = ({ (U.calling g mk a).setFrames s₂.frames with heap := s₂.heap, slotsUsed := s₂.slotsUsed } : State).setVm s₂.vm := by
      have : s₂ = ({ s₂ with vm := (U.calling g mk a).vm } : State).setVm s₂.vm := rfl
      rw [e2] at this
      exact this
    have hf₂ : s₂.frames = .throwing q :: .java g :: U.frames.tail := hend
    have hW' : U.WarmedH s₂.vm := hW₂
    have hs₂ : s₂ = ((({ U with heap := s₂.heap, slotsUsed := s₂.slotsUsed } : State).setVm s₂.vm).setTop g).pushFrame (.throwing q) := by
      refine e3.trans ?_
      rw [hf₂, State.calling_eq h.top, State.setFrames_setFrames, State.pushFrame, State.frames_setTop _ hr', State.setTop_of_frames _ hr', State.setFrames_setFrames, hr]
      rfl
    have hsame : U.sameButNew ({ U with heap := s₂.heap, slotsUsed := s₂.slotsUsed } : State) L mc ms := by
      refine ⟨?_, q2, q3, q4, q5, q6⟩
      obtain ⟨t, ht, -⟩ := State.frames_cons hr
      show ({ U with heap := s₂.heap, slotsUsed := s₂.slotsUsed } : State) = { U.setFrames U.frames with heap := s₂.heap, slotsUsed := s₂.slotsUsed }
      rw [State.setFrames_self ht]
    subst hg
    refine Or.inr ⟨q, ⟨(({ U with heap := s₂.heap, slotsUsed := s₂.slotsUsed } : State).setVm s₂.vm), Ls ++ L, c0 + mc, s0 + ms⟩,
      ⟨X.admits, X.cas, X.clock, X.frames, X.room, X.hears, X.method, X.code, (X.here.setHeapUsed s₂.heap s₂.slotsUsed).setVm hW'.alike, X.tail, State.WarmedH.trans X.warmed hW', X.limits, X.bytes, X.same.trans (hsame.setVm s.vm)⟩,
      ⟨g, mk, s₂, L, E, ce, rfl, rfl, hx, hce, hcv, hcl, rfl, hL, rfl, rfl⟩, ?_⟩
    show Steps p.tables e below _ (((({ U with heap := s₂.heap, slotsUsed := s₂.slotsUsed } : State).setVm s₂.vm).setTop g).pushFrame (.throwing q))
    rw [← hs₂]
    exact hsteps
end Payer
section Calls
variable {p : Program} {l : Launch} {e : Env} {R : Room} {s : State} {m : MethodId} {args : Array Value} {below : List Frame} {meth : Method} {c : Code} {T : State} {locs : List Loc} {cells slots : Nat}
theorem vx_callV (X : Stand p l e R s m args below meth c T locs cells slots) (hexec : p.tables.exec = Jvm.exec) {own C : String} {index : Nat} {y : MethodName} {bytes : ByteArray} {maxL : Nat} {ret : Option FieldType}
    (hown : s.vm.findClass own = some m.cls) (hlink : (Cond.methodLink own index y).before args s = true) (hinst : (Cond.instanceMethod y).before args s = true) (hsel : (Cond.selects C y y).before args s = true)
    (hcode : (Cond.code y bytes maxL ret).before args s = true) (hy : y.cls ≠ "java/lang/invoke/MethodHandle" ∧ y.cls ≠ "java/lang/invoke/VarHandle")
    {W9 : Nat} {Pre : Pt → Array Value → Prop} {Post : Pt → Array Value → Option Value → Pt → Prop} {PostX : Pt → Array Value → Addr → Pt → Prop} (hK : vx_Back l R p e below s args y 3 W9 Pre Post PostX)
    {b : Addr} {cellB : Cell} (hcell : T.heap[b]? = some cellB) (hobj : cellB.vm.isStatics = false) (hcls : s.vm.findClass C = some cellB.cls)
    {g : JFrame} (hg : g.method = m) (hsize : g.locals.size = c.maxLocals) {argsL rest : List Value} (hlen : ∀ sig, parseMethodDescriptor y.desc = some sig → argsL.length = sig.parameters.length)
    (hstack : g.stack = argsL.reverse ++ .ref b :: rest) (hW : 2 * g.monitorRoom + (rest.map fun v => v.category).sum ≤ W9) (hdg : decode c.code g.pc = .ok (.invokevirtual index, 3))
    (hpre : ∀ vm₁, s.WarmedH vm₁ → Pre ⟨T.setVm vm₁, locs, cells, slots⟩ (Value.ref b :: argsL).toArray) :
    (∃ (v : Option Value) (vm₁ : Vm) (B : Pt), s.WarmedH vm₁ ∧ Stand p l e R s m args below meth c B.U B.locs B.cells B.slots ∧ Post ⟨T.setVm vm₁, locs, cells, slots⟩ (Value.ref b :: argsL).toArray v B ∧
      ∀ target, Steps p.tables e below (B.U.setTop { g with pc := g.pc + 3, stack := v.toList ++ rest }) target → Steps p.tables e below (T.setTop g) target) ∨
    (∃ (q : Addr) (vm₁ : Vm) (B : Pt), s.WarmedH vm₁ ∧ Stand p l e R s m args below meth c B.U B.locs B.cells B.slots ∧ PostX ⟨T.setVm vm₁, locs, cells, slots⟩ (Value.ref b :: argsL).toArray q B ∧
      Steps p.tables e below (T.setTop g) ((B.U.setTop { g with stack := rest }).pushFrame (.throwing q))) := by
  obtain ⟨mk, methM, hnamed, hmethM, hstM, habM⟩ := Cond.instanceMethod_spec hinst
  obtain ⟨methM', cM, hmethM', -, -, -, -, -, -, hsigM⟩ := Cond.code_spec hnamed hcode
  cases hmethM.symm.trans hmethM'
  obtain ⟨c2, r2, m2, q1, q2, q3, q4, kP, hkP, hkPi⟩ := Cond.selects_spec hsel
  cases hcls.symm.trans q1
  cases (State.methodFound?_of_named hnamed hy).symm.trans q2
  cases hnamed.symm.trans q3
  have hselP : selectMethod e.platform s.vm cellB.cls mk = .method mk := by rw [Launch.admits_selectMethod X.admits]; exact q4
  obtain ⟨vm₁, X₁, hstep₁⟩ := X.invokevirtual hexec hown hlink hnamed hmethM hstM hkP hkPi hy (a := b) (cell := cellB) hcell
    (fun z h => by rw [h] at hobj; cases hobj) hselP hmethM habM hkP hkPi (g := g) hg (argsL := argsL) (rest := rest) (hlen _ hsigM) hstack hdg
  rcases hK m meth c ⟨T.setVm vm₁, locs, cells, slots⟩ { g with stack := rest } (.invokevirtual index) mk (Value.ref b :: argsL).toArray X₁ hg hsize hdg hW (X₁.named hnamed) (hpre vm₁ X₁.warmed) with ⟨v, B, X', hpost, hsteps⟩ | ⟨q, B, X', hpost, hsteps⟩
  · exact Or.inl ⟨v, vm₁, B, X₁.warmed, X', hpost, fun target h => hstep₁ _ fun acts => by rw [doInvoke_state]; exact hsteps.trans h⟩
  · exact Or.inr ⟨q, vm₁, B, X₁.warmed, X', hpost, hstep₁ _ fun acts => by rw [doInvoke_state]; exact hsteps⟩
theorem vx_callS (X : Stand p l e R s m args below meth c T locs cells slots) (hexec : p.tables.exec = Jvm.exec) {own : String} {index : Nat} {y : MethodName} {bytes : ByteArray} {maxL : Nat} {ret : Option FieldType}
    (hown : s.vm.findClass own = some m.cls) (hlink : (Cond.methodLink own index y).before args s = true) (hstat : (Cond.static y).before args s = true) (hinit : (Cond.initialized y.cls).before args s = true)
    (hcode : (Cond.code y bytes maxL ret).before args s = true) (hy : y.cls ≠ "java/lang/invoke/MethodHandle" ∧ y.cls ≠ "java/lang/invoke/VarHandle")
    {W9 : Nat} {Pre : Pt → Array Value → Prop} {Post : Pt → Array Value → Option Value → Pt → Prop} {PostX : Pt → Array Value → Addr → Pt → Prop} (hK : vx_Back l R p e below s args y 3 W9 Pre Post PostX)
    {g : JFrame} (hg : g.method = m) (hsize : g.locals.size = c.maxLocals) {argsL rest : List Value} (hlen : ∀ sig, parseMethodDescriptor y.desc = some sig → argsL.length = sig.parameters.length)
    (hstack : g.stack = argsL.reverse ++ rest) (hW : 2 * g.monitorRoom + (rest.map fun v => v.category).sum ≤ W9) (hdg : decode c.code g.pc = .ok (.invokestatic index, 3))
    (hpre : ∀ vm₁, s.WarmedH vm₁ → Pre ⟨T.setVm vm₁, locs, cells, slots⟩ argsL.toArray) :
    (∃ (v : Option Value) (vm₁ : Vm) (B : Pt), s.WarmedH vm₁ ∧ Stand p l e R s m args below meth c B.U B.locs B.cells B.slots ∧ Post ⟨T.setVm vm₁, locs, cells, slots⟩ argsL.toArray v B ∧
      ∀ target, Steps p.tables e below (B.U.setTop { g with pc := g.pc + 3, stack := v.toList ++ rest }) target → Steps p.tables e below (T.setTop g) target) ∨
    (∃ (q : Addr) (vm₁ : Vm) (B : Pt), s.WarmedH vm₁ ∧ Stand p l e R s m args below meth c B.U B.locs B.cells B.slots ∧ PostX ⟨T.setVm vm₁, locs, cells, slots⟩ argsL.toArray q B ∧
      Steps p.tables e below (T.setTop g) ((B.U.setTop { g with stack := rest }).pushFrame (.throwing q))) := by
  obtain ⟨mk, hnamed⟩ := Cond.code_named hcode
  obtain ⟨methM, cM, hmethM, -, -, -, -, -, -, hsigM⟩ := Cond.code_spec hnamed hcode
  have hstatic : methM.isStatic = true := Cond.static_spec hnamed hmethM hstat
  obtain ⟨kP, hkP, -⟩ := className_of_methodNamed hnamed
  have hinitP : kP.init = .initialized := Cond.initialized_spec (findClass_of_methodNamed hnamed) hkP hinit
  obtain ⟨vm₁, X₁, hstep₁⟩ := X.invokestatic hexec hown hlink hnamed hmethM hstatic hkP hinitP hy (g := g) hg (argsL := argsL) (rest := rest) (hlen _ hsigM) hstack hdg
  rcases hK m meth c ⟨T.setVm vm₁, locs, cells, slots⟩ { g with stack := rest } (.invokestatic index) mk argsL.toArray X₁ hg hsize hdg hW (X₁.named hnamed) (hpre vm₁ X₁.warmed) with ⟨v, B, X', hpost, hsteps⟩ | ⟨q, B, X', hpost, hsteps⟩
  · exact Or.inl ⟨v, vm₁, B, X₁.warmed, X', hpost, fun target h => hstep₁ _ fun acts => by rw [doInvoke_state]; exact hsteps.trans h⟩
  · exact Or.inr ⟨q, vm₁, B, X₁.warmed, X', hpost, hstep₁ _ fun acts => by rw [doInvoke_state]; exact hsteps⟩
end Calls
theorem vx_cls {s : State} {T : State} {vm₁ : Vm} {E : String} {k : ClassId} (hW : s.WarmedH vm₁) (h : (T.setVm vm₁).vm.findClass E = some k) : s.vm.findClass E = some k := by
  have h1 : vm₁.findClass E = some k := h
  rw [hW.alike.findClass] at h1
  exact h1
/-- the method's frame g, with q thrown over it -/
def vx_W (p : Program) (l : Launch) (e : Env) (R : Room) (s : State) (m : MethodId) (args : Array Value) (below : List Frame) (meth : Method) (c : Code) (H : Heap) (locs : List Loc) (cells slots : Nat) (Q : State → Prop) (g : JFrame) (q : Addr) : Prop :=
  ∀ T : State, T.heap = H → Stand p l e R s m args below meth c T locs cells slots → ∃ t, Steps p.tables e below ((T.setTop g).pushFrame (.throwing q)) t ∧ Q t
def vx_Run (p : Program) (l : Launch) (e : Env) (R : Room) (s : State) (m : MethodId) (args : Array Value) (below : List Frame) (meth : Method) (c : Code) (H : Heap) (locs : List Loc) (cells slots mc ms : Nat) (g : JFrame) (rest : List Value) (Qa : State → Outcome → State → Prop) (XC : String → State → State → Prop) (free : Addr → Prop) : Prop :=
  ∀ T : State, T.heap = H → Stand p l e R s m args below meth c T locs cells slots →
    (∃ (v : Option Value) (st₀ t T' : State) (L : List Loc), st₀.heap = H ∧ Stand p l e R s m args below meth c T' (locs ++ L) (cells + mc) (slots + ms) ∧ (∀ q ∈ L, free q.base) ∧ T'.heap = t.heap ∧ T'.vm = t.vm ∧ Qa st₀ (.returned v) t ∧
      Goes p e below T g T' { g with pc := g.pc + 3, stack := v.toList ++ rest }) ∨
    (∃ (q : Addr) (st₀ t T' : State) (L : List Loc) (E : String) (ce : Cell), st₀.heap = H ∧ Stand p l e R s m args below meth c T' (locs ++ L) (cells + mc) (slots + ms) ∧ (∀ z ∈ L, free z.base) ∧ T'.heap = t.heap ∧ T'.vm = t.vm ∧ XC E st₀ t ∧ t.heap[q]? = some ce ∧ ce.vm = .none ∧ s.vm.findClass E = some ce.cls ∧
      Steps p.tables e below (T.setTop g) ((T'.setTop { g with stack := rest }).pushFrame (.throwing q)))
def vx_X {S : Type} (px : S → Prop) (B : String → S → State → Prop) (A : Nat → Prop) : String → State → State → Prop := fun E st t => ∃ u : S, px u ∧ B E u t ∧ va_F A st t
section Runs
variable {p : Program} {l : Launch} {e : Env} {R : Room} {s : State} {m : MethodId} {args : Array Value} {below : List Frame} {meth : Method} {c : Code} {H : Heap} {locs : List Loc} {cells slots : Nat}
variable {y : MethodName} {bytes cc : ByteArray} {maxL nL mc ms n index : Nat} {ret : Option FieldType} {ws : List Cond} {rm : Room} {Pc : Array Value → State → Prop} {Qc : Array Value → State → Outcome → State → Prop} {XC : String → State → State → Prop} {free : Addr → Prop} {Ts : List Cond} {own C : String} {b : Addr} {As rest : List Value} {g : JFrame}
theorem vx_callBack (cb : CallB R s args own index y bytes maxL ret ws rm mc ms n) (hM : vx_Met l y ws rm Pc Qc XC mc ms free) (hbl : FrameBlind Pc) : vx_Back l R p e below s args y 3 8 (PreOf R mc ms Pc) (PostOf Qc mc ms free) (vx_Post XC mc ms free) := by
  obtain ⟨hrc, hrs, hfr, hlo, hws, hcw, -, hini, -⟩ := cb
  exact vx_back (bytes := bytes) (maxL := maxL) (ret := ret) hM hbl hrc hrs hfr hlo hws hcw (fun a' U hW => word_at hW (Or.inl (by first | rfl | simp [Cond.onTables, Cond.keeps, Cond.steady])) hini)
theorem vx_runV (S : CallFix p m c cc nL s args Ts own) (hM : vx_Met l y ws rm Pc Qc XC mc ms free) (cw : CallW R s args own C index y bytes maxL ret ws rm mc ms n) (hp : PreV s H C b Pc As)
    (hg : g.method = m) (hn : As.length = n) (hsize : g.locals.size = nL) (hstack : g.stack = As.reverse ++ .ref b :: rest) (hW : 2 * g.monitorRoom + (rest.map fun v => v.category).sum ≤ 8) (hdg : decode cc g.pc = .ok (.invokevirtual index, 3)) (hf : cells + mc ≤ R.cells ∧ slots + ms ≤ R.slots) :
    vx_Run p l e R s m args below meth c H locs cells slots mc ms g rest (Qc (Value.ref b :: As).toArray) XC free := by
  have hK : vx_Back l R p e below s args y 3 8 (PreOf R mc ms Pc) (PostOf Qc mc ms free) (vx_Post XC mc ms free) := vx_callBack cw.1 hM hp.1
  obtain ⟨⟨-, -, -, -, -, -, hcode, -, hy, hlen, hl⟩, hin, hse⟩ := cw
  obtain ⟨hx, hb, hml, ho, -⟩ := S
  obtain ⟨-, ⟨cellB, hcB, hoB, hclB⟩, hPc⟩ := hp
  intro T hT X
  rcases vx_callV X hx (C := C) (bytes := bytes) (maxL := maxL) (ret := ret) ho hl hin hse hcode hy hK (by rw [hT]; exact hcB) hoB hclB hg (hsize.trans hml.symm) (argsL := As) (rest := rest) (fun sig h => hn.trans (hlen sig h)) hstack hW (by rw [hb]; exact hdg)
    (fun vm₁ hW₁ => ⟨hf.1, hf.2, hPc (T.setVm vm₁) hT hW₁⟩) with ⟨v, vm₁, ⟨U', l2, c2, s2⟩, hW₁, X', ⟨g', mk, t, L, e1, e2, hq, h1, hL, h2, h3⟩, st⟩ | ⟨q, vm₁, ⟨U', l2, c2, s2⟩, hW₁, X', ⟨g', mk, t, L, E, ce, e1, e2, hq, hce, hcv, hcl, h1, hL, h2, h3⟩, st⟩
  · dsimp only [Pt.U, Pt.locs, Pt.cells, Pt.slots] at X' e1 e2 h1 h2 h3 st
    subst h1; subst h2; subst h3
    exact Or.inl ⟨v, (T.setVm vm₁).calling g' mk (Value.ref b :: As).toArray, t, U', L, hT, X', hL, e1, e2, hq, st⟩
  · dsimp only [Pt.U, Pt.locs, Pt.cells, Pt.slots] at X' e1 e2 h1 h2 h3 st hcl
    subst h1; subst h2; subst h3
    exact Or.inr ⟨q, (T.setVm vm₁).calling g' mk (Value.ref b :: As).toArray, t, U', L, E, ce, hT, X', hL, e1, e2, hq, hce, hcv, vx_cls hW₁ hcl, st⟩
theorem vx_runS (S : CallFix p m c cc nL s args Ts own) (hM : vx_Met l y ws rm Pc Qc XC mc ms free) (cw : CallB R s args own index y bytes maxL ret ws rm mc ms n ∧ (Cond.static y).before args s = true) (hp : PreS s H Pc As)
    (hg : g.method = m) (hn : As.length = n) (hsize : g.locals.size = nL) (hstack : g.stack = As.reverse ++ rest) (hW : 2 * g.monitorRoom + (rest.map fun v => v.category).sum ≤ 8) (hdg : decode cc g.pc = .ok (.invokestatic index, 3)) (hf : cells + mc ≤ R.cells ∧ slots + ms ≤ R.slots) :
    vx_Run p l e R s m args below meth c H locs cells slots mc ms g rest (Qc As.toArray) XC free := by
  have hK : vx_Back l R p e below s args y 3 8 (PreOf R mc ms Pc) (PostOf Qc mc ms free) (vx_Post XC mc ms free) := vx_callBack cw.1 hM hp.1
  obtain ⟨⟨-, -, -, -, -, -, hcode, hini, hy, hlen, hl⟩, hstt⟩ := cw
  obtain ⟨hx, hb, hml, ho, -⟩ := S
  intro T hT X
  rcases vx_callS X hx (bytes := bytes) (maxL := maxL) (ret := ret) ho hl hstt hini hcode hy hK hg (hsize.trans hml.symm) (argsL := As) (rest := rest) (fun sig h => hn.trans (hlen sig h)) hstack hW (by rw [hb]; exact hdg)
    (fun vm₁ hW₁ => ⟨hf.1, hf.2, hp.2 (T.setVm vm₁) hT hW₁⟩) with ⟨v, vm₁, ⟨U', l2, c2, s2⟩, hW₁, X', ⟨g', mk, t, L, e1, e2, hq, h1, hL, h2, h3⟩, st⟩ | ⟨q, vm₁, ⟨U', l2, c2, s2⟩, hW₁, X', ⟨g', mk, t, L, E, ce, e1, e2, hq, hce, hcv, hcl, h1, hL, h2, h3⟩, st⟩
  · dsimp only [Pt.U, Pt.locs, Pt.cells, Pt.slots] at X' e1 e2 h1 h2 h3 st
    subst h1; subst h2; subst h3
    exact Or.inl ⟨v, (T.setVm vm₁).calling g' mk As.toArray, t, U', L, hT, X', hL, e1, e2, hq, st⟩
  · dsimp only [Pt.U, Pt.locs, Pt.cells, Pt.slots] at X' e1 e2 h1 h2 h3 st hcl
    subst h1; subst h2; subst h3
    exact Or.inr ⟨q, (T.setVm vm₁).calling g' mk As.toArray, t, U', L, E, ce, hT, X', hL, e1, e2, hq, hce, hcv, vx_cls hW₁ hcl, st⟩
end Runs
section Rows
variable {p : Program} {l : Launch} {e : Env} {R : Room} {s : State} {m : MethodId} {args : Array Value} {below : List Frame} {meth : Method} {c : Code} {H : Heap} {locs : List Loc} {cells slots : Nat} {Q : State → Prop}
variable {mc ms : Nat} {free : Addr → Prop} {A0 A1 : Nat → Prop} {H0 : Heap} {a : Array Value} {pc : Nat} {ls : Array Slot} {st0 rest : List Value}
theorem vx_keep {st₀ t T' : State} {L : List Loc} (h0 : st₀.heap = H) (e1 : T'.heap = t.heap) (hS : va_S A0 H0 H locs) (hA : ∀ q, q < H.size → A1 q → A0 q) (hf : ∀ q, free q → A0 q) (hL : ∀ q ∈ L, free q.base) (hF : va_F A1 st₀ t) :
    H.size ≤ T'.heap.size ∧ (∀ q : Nat, q < H.size → ¬ A1 q → T'.heap[q]? = H[q]?) ∧ va_S A0 H0 T'.heap (locs ++ L) := by
  obtain ⟨hz, hk⟩ := hF
  rw [h0] at hz hk
  exact ⟨by rw [e1]; exact hz, fun q h1 h2 => by rw [e1]; exact hk q h1 h2,
    ⟨Nat.le_trans hS.1 (by rw [e1]; exact hz), fun q h1 h2 => by rw [e1, hk q (Nat.lt_of_lt_of_le h1 hS.1) (fun z => h2 (hA q (Nat.lt_of_lt_of_le h1 hS.1) z))]; exact hS.2.1 q h1 h2, fun q hq => by
      rcases List.mem_append.mp hq with h | h
      · exact hS.2.2 q h
      · exact hf _ (hL q h)⟩⟩
theorem vx_calli {S SX : Type} {post : Int32 → S → Prop} {px : SX → Prop} {B : S → State → Prop} {BX : String → SX → State → Prop} {AX : Nat → Prop} (hr : vx_Run p l e R s m args below meth c H locs cells slots mc ms (F0 m pc ls st0) rest (va_Qi post B A1 a) (vx_X px BX AX) free) (hS : va_S A0 H0 H locs) (hA : ∀ q, q < H.size → A1 q → A0 q) (hf : ∀ q, free q → A0 q) (hAX : ∀ q, q < H.size → AX q → A0 q)
    (kx : ∀ (E : String) (ce : Cell) (q9 : Addr) (u : SX) (t : State) (H1 : Heap) (locs1 : List Loc), t.heap = H1 → s.vm.Alike t.vm → px u → BX E u t → H.size ≤ H1.size → (∀ q : Nat, q < H.size → ¬ AX q → H1[q]? = H[q]?) → va_S A0 H0 H1 locs1 → H1[q9]? = some ce → ce.vm = .none → s.vm.findClass E = some ce.cls → vx_W p l e R s m args below meth c H1 locs1 (cells + mc) (slots + ms) Q (F0 m pc ls rest) q9)
    (kk : ∀ (r : Int32) (u : S) (t : State) (H1 : Heap) (locs1 : List Loc), t.heap = H1 → s.vm.Alike t.vm → post r u → B u t → H.size ≤ H1.size → (∀ q : Nat, q < H.size → ¬ A1 q → H1[q]? = H[q]?) → va_S A0 H0 H1 locs1 → W p l e R s m args below meth c H1 locs1 (cells + mc) (slots + ms) Q (F0 m (pc + 3) ls (.int r :: rest))) : W p l e R s m args below meth c H locs cells slots Q (F0 m pc ls st0) := by
  intro T hT X
  rcases hr T hT X with ⟨v, st₀, t, T', L, h0, X', hL, e1, e2, ⟨⟨r, u, hv, hp, hb⟩, hF⟩, st⟩ | ⟨q, st₀, t, T', L, E, ce, h0, X', hL, e1, e2, ⟨u, hp, hb, hF⟩, hce, hcv, hcl, st⟩
  · cases hv
    obtain ⟨k1, k2, k3⟩ := vx_keep h0 e1 hS hA hf hL hF
    obtain ⟨t2, a1, b1⟩ := kk r u t T'.heap (locs ++ L) e1.symm (by rw [← e2]; exact X'.warmed.alike) hp hb k1 k2 k3 T' rfl X'
    exact ⟨t2, st t2 a1, b1⟩
  · obtain ⟨k1, k2, k3⟩ := vx_keep h0 e1 hS hAX hf hL hF
    obtain ⟨t2, a1, b1⟩ := kx E ce q u t T'.heap (locs ++ L) e1.symm (by rw [← e2]; exact X'.warmed.alike) hp hb k1 k2 k3 (by rw [e1]; exact hce) hcv hcl T' rfl X'
    exact ⟨t2, st.trans a1, b1⟩
theorem vx_calll {S SX : Type} {post : Int64 → S → Prop} {px : SX → Prop} {B : S → State → Prop} {BX : String → SX → State → Prop} {AX : Nat → Prop} (hr : vx_Run p l e R s m args below meth c H locs cells slots mc ms (F0 m pc ls st0) rest (va_Ql post B A1 a) (vx_X px BX AX) free) (hS : va_S A0 H0 H locs) (hA : ∀ q, q < H.size → A1 q → A0 q) (hf : ∀ q, free q → A0 q) (hAX : ∀ q, q < H.size → AX q → A0 q)
    (kx : ∀ (E : String) (ce : Cell) (q9 : Addr) (u : SX) (t : State) (H1 : Heap) (locs1 : List Loc), t.heap = H1 → s.vm.Alike t.vm → px u → BX E u t → H.size ≤ H1.size → (∀ q : Nat, q < H.size → ¬ AX q → H1[q]? = H[q]?) → va_S A0 H0 H1 locs1 → H1[q9]? = some ce → ce.vm = .none → s.vm.findClass E = some ce.cls → vx_W p l e R s m args below meth c H1 locs1 (cells + mc) (slots + ms) Q (F0 m pc ls rest) q9)
    (kk : ∀ (r : Int64) (u : S) (t : State) (H1 : Heap) (locs1 : List Loc), t.heap = H1 → s.vm.Alike t.vm → post r u → B u t → H.size ≤ H1.size → (∀ q : Nat, q < H.size → ¬ A1 q → H1[q]? = H[q]?) → va_S A0 H0 H1 locs1 → W p l e R s m args below meth c H1 locs1 (cells + mc) (slots + ms) Q (F0 m (pc + 3) ls (.long r :: rest))) : W p l e R s m args below meth c H locs cells slots Q (F0 m pc ls st0) := by
  intro T hT X
  rcases hr T hT X with ⟨v, st₀, t, T', L, h0, X', hL, e1, e2, ⟨⟨r, u, hv, hp, hb⟩, hF⟩, st⟩ | ⟨q, st₀, t, T', L, E, ce, h0, X', hL, e1, e2, ⟨u, hp, hb, hF⟩, hce, hcv, hcl, st⟩
  · cases hv
    obtain ⟨k1, k2, k3⟩ := vx_keep h0 e1 hS hA hf hL hF
    obtain ⟨t2, a1, b1⟩ := kk r u t T'.heap (locs ++ L) e1.symm (by rw [← e2]; exact X'.warmed.alike) hp hb k1 k2 k3 T' rfl X'
    exact ⟨t2, st t2 a1, b1⟩
  · obtain ⟨k1, k2, k3⟩ := vx_keep h0 e1 hS hAX hf hL hF
    obtain ⟨t2, a1, b1⟩ := kx E ce q u t T'.heap (locs ++ L) e1.symm (by rw [← e2]; exact X'.warmed.alike) hp hb k1 k2 k3 (by rw [e1]; exact hce) hcv hcl T' rfl X'
    exact ⟨t2, st.trans a1, b1⟩
theorem vx_callf {S SX : Type} {post : UInt32 → S → Prop} {px : SX → Prop} {B : S → State → Prop} {BX : String → SX → State → Prop} {AX : Nat → Prop} (hr : vx_Run p l e R s m args below meth c H locs cells slots mc ms (F0 m pc ls st0) rest (va_Qf post B A1 a) (vx_X px BX AX) free) (hS : va_S A0 H0 H locs) (hA : ∀ q, q < H.size → A1 q → A0 q) (hf : ∀ q, free q → A0 q) (hAX : ∀ q, q < H.size → AX q → A0 q)
    (kx : ∀ (E : String) (ce : Cell) (q9 : Addr) (u : SX) (t : State) (H1 : Heap) (locs1 : List Loc), t.heap = H1 → s.vm.Alike t.vm → px u → BX E u t → H.size ≤ H1.size → (∀ q : Nat, q < H.size → ¬ AX q → H1[q]? = H[q]?) → va_S A0 H0 H1 locs1 → H1[q9]? = some ce → ce.vm = .none → s.vm.findClass E = some ce.cls → vx_W p l e R s m args below meth c H1 locs1 (cells + mc) (slots + ms) Q (F0 m pc ls rest) q9)
    (kk : ∀ (r : UInt32) (u : S) (t : State) (H1 : Heap) (locs1 : List Loc), t.heap = H1 → s.vm.Alike t.vm → post r u → B u t → H.size ≤ H1.size → (∀ q : Nat, q < H.size → ¬ A1 q → H1[q]? = H[q]?) → va_S A0 H0 H1 locs1 → W p l e R s m args below meth c H1 locs1 (cells + mc) (slots + ms) Q (F0 m (pc + 3) ls (.float r :: rest))) : W p l e R s m args below meth c H locs cells slots Q (F0 m pc ls st0) := by
  intro T hT X
  rcases hr T hT X with ⟨v, st₀, t, T', L, h0, X', hL, e1, e2, ⟨⟨r, u, hv, hp, hb⟩, hF⟩, st⟩ | ⟨q, st₀, t, T', L, E, ce, h0, X', hL, e1, e2, ⟨u, hp, hb, hF⟩, hce, hcv, hcl, st⟩
  · cases hv
    obtain ⟨k1, k2, k3⟩ := vx_keep h0 e1 hS hA hf hL hF
    obtain ⟨t2, a1, b1⟩ := kk r u t T'.heap (locs ++ L) e1.symm (by rw [← e2]; exact X'.warmed.alike) hp hb k1 k2 k3 T' rfl X'
    exact ⟨t2, st t2 a1, b1⟩
  · obtain ⟨k1, k2, k3⟩ := vx_keep h0 e1 hS hAX hf hL hF
    obtain ⟨t2, a1, b1⟩ := kx E ce q u t T'.heap (locs ++ L) e1.symm (by rw [← e2]; exact X'.warmed.alike) hp hb k1 k2 k3 (by rw [e1]; exact hce) hcv hcl T' rfl X'
    exact ⟨t2, st.trans a1, b1⟩
theorem vx_calld {S SX : Type} {post : UInt64 → S → Prop} {px : SX → Prop} {B : S → State → Prop} {BX : String → SX → State → Prop} {AX : Nat → Prop} (hr : vx_Run p l e R s m args below meth c H locs cells slots mc ms (F0 m pc ls st0) rest (va_Qd post B A1 a) (vx_X px BX AX) free) (hS : va_S A0 H0 H locs) (hA : ∀ q, q < H.size → A1 q → A0 q) (hf : ∀ q, free q → A0 q) (hAX : ∀ q, q < H.size → AX q → A0 q)
    (kx : ∀ (E : String) (ce : Cell) (q9 : Addr) (u : SX) (t : State) (H1 : Heap) (locs1 : List Loc), t.heap = H1 → s.vm.Alike t.vm → px u → BX E u t → H.size ≤ H1.size → (∀ q : Nat, q < H.size → ¬ AX q → H1[q]? = H[q]?) → va_S A0 H0 H1 locs1 → H1[q9]? = some ce → ce.vm = .none → s.vm.findClass E = some ce.cls → vx_W p l e R s m args below meth c H1 locs1 (cells + mc) (slots + ms) Q (F0 m pc ls rest) q9)
    (kk : ∀ (r : UInt64) (u : S) (t : State) (H1 : Heap) (locs1 : List Loc), t.heap = H1 → s.vm.Alike t.vm → post r u → B u t → H.size ≤ H1.size → (∀ q : Nat, q < H.size → ¬ A1 q → H1[q]? = H[q]?) → va_S A0 H0 H1 locs1 → W p l e R s m args below meth c H1 locs1 (cells + mc) (slots + ms) Q (F0 m (pc + 3) ls (.double r :: rest))) : W p l e R s m args below meth c H locs cells slots Q (F0 m pc ls st0) := by
  intro T hT X
  rcases hr T hT X with ⟨v, st₀, t, T', L, h0, X', hL, e1, e2, ⟨⟨r, u, hv, hp, hb⟩, hF⟩, st⟩ | ⟨q, st₀, t, T', L, E, ce, h0, X', hL, e1, e2, ⟨u, hp, hb, hF⟩, hce, hcv, hcl, st⟩
  · cases hv
    obtain ⟨k1, k2, k3⟩ := vx_keep h0 e1 hS hA hf hL hF
    obtain ⟨t2, a1, b1⟩ := kk r u t T'.heap (locs ++ L) e1.symm (by rw [← e2]; exact X'.warmed.alike) hp hb k1 k2 k3 T' rfl X'
    exact ⟨t2, st t2 a1, b1⟩
  · obtain ⟨k1, k2, k3⟩ := vx_keep h0 e1 hS hAX hf hL hF
    obtain ⟨t2, a1, b1⟩ := kx E ce q u t T'.heap (locs ++ L) e1.symm (by rw [← e2]; exact X'.warmed.alike) hp hb k1 k2 k3 (by rw [e1]; exact hce) hcv hcl T' rfl X'
    exact ⟨t2, st.trans a1, b1⟩
theorem vx_callv {S SX : Type} {post : S → Prop} {px : SX → Prop} {B : S → State → Prop} {BX : String → SX → State → Prop} {AX : Nat → Prop} (hr : vx_Run p l e R s m args below meth c H locs cells slots mc ms (F0 m pc ls st0) rest (va_Qv post B A1 a) (vx_X px BX AX) free) (hS : va_S A0 H0 H locs) (hA : ∀ q, q < H.size → A1 q → A0 q) (hf : ∀ q, free q → A0 q) (hAX : ∀ q, q < H.size → AX q → A0 q)
    (kx : ∀ (E : String) (ce : Cell) (q9 : Addr) (u : SX) (t : State) (H1 : Heap) (locs1 : List Loc), t.heap = H1 → s.vm.Alike t.vm → px u → BX E u t → H.size ≤ H1.size → (∀ q : Nat, q < H.size → ¬ AX q → H1[q]? = H[q]?) → va_S A0 H0 H1 locs1 → H1[q9]? = some ce → ce.vm = .none → s.vm.findClass E = some ce.cls → vx_W p l e R s m args below meth c H1 locs1 (cells + mc) (slots + ms) Q (F0 m pc ls rest) q9)
    (kk : ∀ (u : S) (t : State) (H1 : Heap) (locs1 : List Loc), t.heap = H1 → s.vm.Alike t.vm → post u → B u t → H.size ≤ H1.size → (∀ q : Nat, q < H.size → ¬ A1 q → H1[q]? = H[q]?) → va_S A0 H0 H1 locs1 → W p l e R s m args below meth c H1 locs1 (cells + mc) (slots + ms) Q (F0 m (pc + 3) ls (rest))) : W p l e R s m args below meth c H locs cells slots Q (F0 m pc ls st0) := by
  intro T hT X
  rcases hr T hT X with ⟨v, st₀, t, T', L, h0, X', hL, e1, e2, ⟨⟨u, hv, hp, hb⟩, hF⟩, st⟩ | ⟨q, st₀, t, T', L, E, ce, h0, X', hL, e1, e2, ⟨u, hp, hb, hF⟩, hce, hcv, hcl, st⟩
  · cases hv
    obtain ⟨k1, k2, k3⟩ := vx_keep h0 e1 hS hA hf hL hF
    obtain ⟨t2, a1, b1⟩ := kk u t T'.heap (locs ++ L) e1.symm (by rw [← e2]; exact X'.warmed.alike) hp hb k1 k2 k3 T' rfl X'
    exact ⟨t2, st t2 a1, b1⟩
  · obtain ⟨k1, k2, k3⟩ := vx_keep h0 e1 hS hAX hf hL hF
    obtain ⟨t2, a1, b1⟩ := kx E ce q u t T'.heap (locs ++ L) e1.symm (by rw [← e2]; exact X'.warmed.alike) hp hb k1 k2 k3 (by rw [e1]; exact hce) hcv hcl T' rfl X'
    exact ⟨t2, st.trans a1, b1⟩
/-- caught by the row x of this method's table; the rows ahead don't take it -/
theorem vx_catch {own name : String} {E : String} {ce : Cell} {q : Addr} (hown : s.vm.findClass own = some m.cls) (pre : List ExceptionTableEntry) (x : ExceptionTableEntry) (suf : List ExceptionTableEntry) (hsplit : c.exceptionTable.toList = pre ++ x :: suf)
    (hpass : ∀ z ∈ pre, covers z pc = false ∨ (z.catchType ≠ 0 ∧ ∃ nm : String, (Cond.classLink own z.catchType nm).before args s = true ∧ va_Nc E nm s)) (hx : covers x pc = true) (h0 : x.catchType ≠ 0)
    (hlink : (Cond.classLink own x.catchType name).before args s = true) (hcast : (Cond.castable E name).before args s = true) (hcell : H[q]? = some ce) (hv : ce.vm = .none) (hcl : s.vm.findClass E = some ce.cls)
    (kk : W p l e R s m args below meth c H locs cells slots Q (F0 m x.handlerPc ls [.ref q])) : vx_W p l e R s m args below meth c H locs cells slots Q (F0 m pc ls rest) q := by
  intro T hT X
  have hpl : e.platform.magicAccessors = ({} : Platform).magicAccessors := by rw [X.admits.platform]
  obtain ⟨c3, c4, hc3, hc4, hasg⟩ := Cond.castable_spec hcast
  cases Option.some.inj (hc3.symm.trans hcl)
  obtain ⟨c5, hc5, hcl5⟩ := Cond.classLink_spec hown hlink e.platform hpl
  cases Option.some.inj (hc4.symm.trans hc5)
  obtain ⟨vm', X', st⟩ := X.thenCaughtThrough q (g := F0 m pc ls rest) rfl (Steps.refl _) (by rw [hT]; exact hcell) (by rw [hv]; rfl) (by obtain ⟨k9, h9, -⟩ := Vm.findClass_spec hcl; exact ⟨k9, h9⟩) pre x suf hsplit
    (fun z hz => by
      rcases hpass z hz with h | ⟨hz0, nm, hl1, hn1⟩
      · exact Or.inl h
      · obtain ⟨c6, hc6, hcl6⟩ := Cond.classLink_spec hown hl1 e.platform hpl
        obtain ⟨a8, b8, h1, h2, h3⟩ := hn1
        cases Option.some.inj (h1.symm.trans hcl)
        cases Option.some.inj (h2.symm.trans hc6)
        exact Or.inr ⟨hz0, _, hcl6, h3⟩) hx (Or.inr ⟨h0, c4, hcl5, hasg⟩)
  obtain ⟨t, a1, b1⟩ := kk (T.setVm vm') hT X'
  exact ⟨t, st.trans a1, b1⟩
end Rows
section Ends
variable {p : Program} {l : Launch} {e : Env} {R : Room} {s : State} {m : MethodId} {args : Array Value} {below : List Frame} {meth : Method} {c : Code} {H : Heap} {locs : List Loc} {cells slots : Nat} {Q : State → Prop}
variable {mc ms : Nat} {free : Addr → Prop} {A0 A1 : Nat → Prop} {H0 : Heap} {a : Array Value} {ls : Array Slot} {st0 rest : List Value}
variable {Qc : Array Value → State → Outcome → State → Prop} {XC : String → State → State → Prop}
/-- what a body that may throw owes at its end -/
def vx_MQ (below : List Frame) (Qc : Array Value → State → Outcome → State → Prop) (XC : String → State → State → Prop) (a : Array Value) (s : State) (mc ms : Nat) (free : Addr → Prop) : State → Prop := fun t =>
  ∃ o, t.status = .running ∧ Ended t below o ∧ vx_Q Qc XC mc ms free a s o t
theorem vx_ret {g : JFrame} {mc ms : Nat} (k : W p l e R s m args below meth c H locs cells slots (MQ below Qc args s mc ms free) g) : W p l e R s m args below meth c H locs cells slots (vx_MQ below Qc XC args s mc ms free) g := by
  intro T hT X
  obtain ⟨t, a1, o, b1, b2, b3, b4⟩ := k T hT X
  exact ⟨t, a1, o, b1, b2, Or.inl ⟨b3, b4⟩⟩
/-- not caught here: it goes on to the caller -/
theorem vx_widen {g : JFrame} {q : Addr} {k n : Nat} (h1 : cells ≤ k) (h2 : slots ≤ n) (kk : vx_W p l e R s m args below meth c H locs k n Q g q) : vx_W p l e R s m args below meth c H locs cells slots Q g q := fun T hT X => kk T hT (stand_widen X h1 h2)
theorem vx_out {pc : Nat} {E : String} {ce : Cell} {q : Addr} {mc ms : Nat} (hout : ∀ x ∈ c.exceptionTable.toList, covers x pc = false) (hlocks : meth.locks = false) (hcell : H[q]? = some ce) (hv : ce.vm = .none) (hcl : s.vm.findClass E = some ce.cls)
    (hx : ∀ t : State, t.heap = H → s.vm.Alike t.vm → XC E s t) (hf : ∀ z ∈ locs, free z.base) (hc : cells ≤ mc) (hs : slots ≤ ms) :
    vx_W p l e R s m args below meth c H locs cells slots (vx_MQ below Qc XC args s mc ms free) (F0 m pc ls rest) q := by
  intro T hT X
  obtain ⟨st1, hrun, hend, hW, hsm⟩ := X.leaveThrown q (g := F0 m pc ls rest) rfl rfl rfl hout hlocks
  have hcell9 : (T.setFrames (.throwing q :: below)).heap[q]? = some ce := by
    show T.heap[q]? = some ce
    rw [hT]; exact hcell
  exact ⟨_, st1, .threw q, hrun, hend, Or.inr ⟨q, rfl, E, ce, locs, hx _ hT hW.alike, hcell9, hv, hcl, hW, hsm.mono hc hs, hf⟩⟩
theorem vx_frame {U : State} {k n : Nat} (h : s.sameButNew ({ U with vm := s.vm } : State) locs k n) : s.heap.size ≤ U.heap.size ∧ ∀ q : Nat, q < s.heap.size → (∀ z ∈ locs, z.base ≠ q) → U.heap[q]? = s.heap[q]? := by
  obtain ⟨-, h2, -, -, -, h6⟩ := h
  refine ⟨h2, fun q hq hz => ?_⟩
  obtain ⟨c9, e1, e2, e3, e4⟩ := h6 q _ (Array.getElem?_eq_getElem hq)
  have hs : c9.slots = (s.heap[q]).slots := Array.ext_getElem? fun i => e4 i fun hm => hz _ hm rfl
  have h9 : c9 = s.heap[q] := by
    rw [hs] at e2
    exact e2
  have e5 : U.heap[q]? = some c9 := e1
  rw [e5, h9, Array.getElem?_eq_getElem hq]
/-- the words of a throw but the four that speak of the heap -/
def vx_no (w : Cond) : Bool := decide (w ≠ .isRef (.static Bundle.tN "UNASSIGNED_STACK" Bundle.steD)) && decide (w ≠ .isRef (.static Bundle.tN "SUPPRESSED_SENTINEL" Bundle.listD)) && decide (w ≠ .laysStatic Bundle.tN "UNASSIGNED_STACK" Bundle.steD) && decide (w ≠ .laysStatic Bundle.tN "SUPPRESSED_SENTINEL" Bundle.listD)
def vx_at0 (own : String) (ic : Nat) (X : String) (names : List String) : List Cond := (Bundle.ownAtoms0 own ic X names).filter vx_no
def vx_atS (own : String) (ic : Nat) (X : String) (names : List String) : List Cond := (Bundle.ownAtoms own ic X names).filter vx_no
/-- a word that the tables alone decide, or a good one -/
def vx_ot (w : Cond) : Bool := w.onTables || goodWord w
theorem vx_ot_at {args a' : Array Value} {s U : State} {w : Cond} (hW : s.WarmedH U.vm) (hvm : s.vm = U.vm) (hg : vx_ot w = true) (h : w.before args s = true) : w.before a' U = true := by
  simp only [vx_ot, Bool.or_eq_true] at hg
  rcases hg with hg | hg
  · exact va_tabs hg hvm h
  · exact word_at hW (good_of_word hg) h
/-- a list's words: the good ones out of the method's own list, the others by premises of their own -/
theorem vx_hat {args : Array Value} {s : State} {L B : List Cond} (h1 : ∀ w ∈ L.filter goodWord, w.before args s = true) (h2 : ∀ w ∈ L.filter (fun w => !goodWord w), w ∈ B) (h3 : ∀ w ∈ B, w.before args s = true) : ∀ w ∈ L, w.before args s = true := by
  intro w hw
  by_cases g : goodWord w = true
  · exact h1 w (List.mem_filter.mpr ⟨hw, g⟩)
  · refine h3 w (h2 w (List.mem_filter.mpr ⟨hw, ?_⟩))
    show (!goodWord w) = true
    cases hgw : goodWord w
    · rfl
    · exact absurd hgw g
theorem vx_c {args : Array Value} {s : State} {w : Cond} {B : List Cond} (h : w.before args s = true) (t : ∀ w ∈ B, w.before args s = true) : ∀ w' ∈ w :: B, w'.before args s = true := fun w' h' => (List.mem_cons.mp h').elim (fun e => by rw [e]; exact h) (t w')
theorem vx_n {args : Array Value} {s : State} : ∀ w ∈ ([] : List Cond), w.before args s = true := fun _ h => nomatch h
theorem vx_own {args : Array Value} {s : State} {L : List Cond} (h1 : ∀ w ∈ L.filter vx_no, w.before args s = true)
    (hU : (Cond.isRef (.static Bundle.tN "UNASSIGNED_STACK" Bundle.steD)).before args s = true) (hN : (Cond.isRef (.static Bundle.tN "SUPPRESSED_SENTINEL" Bundle.listD)).before args s = true)
    (lU : (Cond.laysStatic Bundle.tN "UNASSIGNED_STACK" Bundle.steD).before args s = true) (lN : (Cond.laysStatic Bundle.tN "SUPPRESSED_SENTINEL" Bundle.listD).before args s = true) : ∀ w ∈ L, w.before args s = true := by
  intro w hw
  by_cases e1 : w = .isRef (.static Bundle.tN "UNASSIGNED_STACK" Bundle.steD)
  · rw [e1]; exact hU
  · by_cases e2 : w = .isRef (.static Bundle.tN "SUPPRESSED_SENTINEL" Bundle.listD)
    · rw [e2]; exact hN
    · by_cases e3 : w = .laysStatic Bundle.tN "UNASSIGNED_STACK" Bundle.steD
      · rw [e3]; exact lU
      · by_cases e4 : w = .laysStatic Bundle.tN "SUPPRESSED_SENTINEL" Bundle.listD
        · rw [e4]; exact lN
        · exact h1 w (List.mem_filter.mpr ⟨hw, by unfold vx_no; rw [decide_eq_true e1, decide_eq_true e2, decide_eq_true e3, decide_eq_true e4]; rfl⟩)
/-- where a static field lies, its class's statics cell in H -/
def vx_L (C n d : String) (A : Nat → Prop) (U : State) (H : Heap) : Prop := ∃ (c : ClassId) (k : Class) (i : Nat) (f : Field) (a : Nat) (cell : Cell), U.vm.findClass C = some c ∧ U.fieldFound? C n d = some (c, k, i, f) ∧ f.isStatic = true ∧ k.statics = some a ∧ H[a]? = some cell ∧ cell.vm.isStatics = true ∧ cell.cls = c ∧ f.slot < cell.slots.size ∧ k.staticTypes[f.slot]? = some f.type ∧ ¬ A a
theorem vx_L.moved {C n d : String} {A : Nat → Prop} {u U : State} {H : Heap} (hvm : u.vm.Alike U.vm) (h : vx_L C n d A u H) : vx_L C n d A U H := by
  obtain ⟨c, k, i, f, a, cell, h1, h2, h3, h4, h5, h6, h7, h8, h9, h10⟩ := h
  obtain ⟨k', hi', he⟩ := State.fieldFound?_setVm hvm h2
  exact ⟨c, k', i, f, a, cell, by rw [hvm.findClass]; exact h1, hi', h3, by rw [he]; exact h4, h5, h6, h7, h8, by rw [he]; exact h9, h10⟩
theorem vx_L.kept {C n d : String} {A : Nat → Prop} {U : State} {H H1 : Heap} (h : vx_L C n d A U H) (hq : ∀ a : Nat, a < H.size → ¬ A a → H1[a]? = H[a]?) : vx_L C n d A U H1 := by
  obtain ⟨c, k, i, f, a, cell, h1, h2, h3, h4, h5, h6, h7, h8, h9, h10⟩ := h
  exact ⟨c, k, i, f, a, cell, h1, h2, h3, h4, by rw [hq a (Array.getElem?_eq_some_iff.mp h5).1 h10]; exact h5, h6, h7, h8, h9, h10⟩
theorem vx_L.narrow {C n d : String} {A B : Nat → Prop} {U : State} {H : Heap} (h : vx_L C n d A U H) (hAB : ∀ q, B q → A q) : vx_L C n d B U H := by
  obtain ⟨c, k, i, f, a, cell, h1, h2, h3, h4, h5, h6, h7, h8, h9, h10⟩ := h
  exact ⟨c, k, i, f, a, cell, h1, h2, h3, h4, h5, h6, h7, h8, h9, fun z => h10 (hAB _ z)⟩
theorem vx_L.word {C n d : String} {A : Nat → Prop} {s : State} {args : Array Value} (h : vx_L C n d A s s.heap) : (Cond.laysStatic C n d).before args s = true := by
  obtain ⟨c, k, i, f, a, cell, h1, h2, h3, h4, h5, h6, h7, h8, h9, -⟩ := h
  show (Cond.laysStatic C n d).holds args s none s [] = true
  exact Cond.laysStatic_of h1 h2 h3 h4 h5 h6 h7 h8 h9
/-- .. and what it holds: null or some reference -/
def vx_Zq (C n d : String) (A : Nat → Prop) (U : State) (H : Heap) : Prop := va_Zq C n d A U H ∧ vx_L C n d A U H
theorem vx_Zq.moved {C n d : String} {A : Nat → Prop} {u U : State} {H : Heap} (hvm : u.vm.Alike U.vm) (h : vx_Zq C n d A u H) : vx_Zq C n d A U H := ⟨va_Zq.moved hvm h.1, vx_L.moved hvm h.2⟩
theorem vx_Zq.kept {C n d : String} {A : Nat → Prop} {U : State} {H H1 : Heap} (h : vx_Zq C n d A U H) (hq : ∀ a : Nat, a < H.size → ¬ A a → H1[a]? = H[a]?) : vx_Zq C n d A U H1 := ⟨va_Zq.kept h.1 hq, vx_L.kept h.2 hq⟩
theorem vx_Zq.narrow {C n d : String} {A B : Nat → Prop} {U : State} {H : Heap} (h : vx_Zq C n d A U H) (hAB : ∀ q, B q → A q) : vx_Zq C n d B U H := ⟨va_Zq.narrow h.1 hAB, vx_L.narrow h.2 hAB⟩
theorem vx_Zqof {args : Array Value} {s : State} {C n d : String} {A : Nat → Prop} (hl : (Cond.laysStatic C n d).before args s = true) (hini : (Cond.initialized C).before args s = true) (h : (Cond.isRef (.static C n d)).before args s = true) (hA : ∀ a : Nat, a < s.heap.size → ¬ A a) : vx_Zq C n d A s s.heap := by
  refine ⟨va_Zqof hl hini h hA, ?_⟩
  obtain ⟨c, k, i, f, a, cell, h1, h2, h3, h4, h5, h6, h7, h8, h9⟩ := Cond.laysStatic_spec hl
  exact ⟨c, k, i, f, a, cell, h1, h2, h3, h4, h5, h6, h7, h8, h9, hA a (Array.getElem?_eq_some_iff.mp h5).1⟩
theorem vx_isRef {C n d : String} {v : Value} {A : Nat → Prop} {s : State} {args : Array Value} (h : va_Z C n d v A s s.heap) (hv : v.isRef = true) : (Cond.isRef (.static C n d)).before args s = true := by
  obtain ⟨cf, kf, fi, f, a, cell, h1, h2, h3, h4, h5, h6, h7, -⟩ := h
  have he : (Term.static C n d).eval args s none [] s = some v := by
    simp [Term.eval, State.fieldNamed?, h1, h2, h4, h5, h6, h7]
  simp only [Cond.before, Cond.holds, Cond.value, he]
  cases v <;> simp_all [Value.isRef]
theorem vx_isRefq {C n d : String} {A : Nat → Prop} {s : State} {args : Array Value} (h : va_Zq C n d A s s.heap) : (Cond.isRef (.static C n d)).before args s = true := by
  rcases h with h | ⟨t, h⟩
  · exact vx_isRef h rfl
  · exact vx_isRef h rfl
/-- the same frame, seen from here: as if the method were called anew in this heap -/
theorem vx_rebase {T : State} (X : Stand p l e R s m args below meth c T locs cells slots) {R' : Room} (hf : R'.frames ≤ R.frames) (hl : R'.locals ≤ R.locals) (hc : cells + R'.cells ≤ R.cells) (hs : slots + R'.slots ≤ R.slots) :
    Stand p l e R' ((T.setVm s.vm).setFrames (.invoking m args :: below)) m args below meth c T [] 0 0 := by
  have htop : (T.setVm s.vm).topJava?.isSome := X.here.top
  have hF : ((T.setVm s.vm).setFrames (.invoking m args :: below)).frames = .invoking m args :: below := State.frames_setFrames _ (State.cur_lt_of_top htop)
  obtain ⟨g₀, hg0⟩ := Option.isSome_iff_exists.mp htop
  obtain ⟨r, hr⟩ := State.topJava?_eq_some.mp hg0
  have hl9 : e.platform.stackLimits (T.setVm s.vm).me = e.platform.stackLimits s.me := X.limits
  have hb9 : (T.setVm s.vm).me.stackBytes = s.me.stackBytes := X.bytes
  refine ⟨X.admits, X.cas, X.clock, hF, ?_, X.hears, X.method, X.code, X.here, X.tail, X.warmed, ?_, ?_, ?_⟩
  · have h := X.room
    have hU : ((T.setVm s.vm).setFrames (.invoking m args :: below)).localsInUse = s.localsInUse := by
      rw [State.localsInUse_invoking hF (meth := meth) (c := c) X.method X.code, State.localsInUse_invoking X.frames X.method X.code]
    simp only [State.hasRoom, Bool.and_eq_true, decide_eq_true_eq] at h ⊢
    obtain ⟨⟨⟨⟨h1, h2, h3, h4, h5, h6⟩, h7⟩, h8⟩, h9⟩ := h
    rw [X.frames, List.length_cons] at h2 h3
    have q1 := X.heapSize
    have q2 := X.used
    simp only [hF, hU, List.length_cons, State.stackLimits_setFrames, State.stackBytes_setFrames, hl9, hb9]
    refine ⟨⟨⟨⟨by omega, by omega, by omega, by omega, by omega, h6⟩, ?_⟩, ?_⟩, X.book⟩
    · show T.heap.size + R'.cells ≤ e.platform.maxCells
      omega
    · show T.slotsUsed + R'.slots ≤ e.platform.maxSlots
      omega
  · rw [State.stackLimits_setFrames]; rfl
  · rw [State.stackBytes_setFrames]; rfl
  · refine ⟨?_, Nat.le_refl _, Nat.le_refl _, ?_, ?_, fun a c9 h9 => ⟨c9, h9, rfl, rfl, fun _ _ => rfl⟩⟩
    · obtain ⟨t, ht, -⟩ := State.frames_cons hr
      show T.setVm s.vm = { ((T.setVm s.vm).setFrames (.invoking m args :: below)).setFrames (T.setVm s.vm).frames with heap := T.heap, slotsUsed := T.slotsUsed }
      rw [State.setFrames_setFrames, State.setFrames_self ht]
      rfl
    · show T.slotsUsed = T.slotsUsed + ((T.heap.toList.drop T.heap.size).map (·.slots.size)).sum
      rw [List.drop_eq_nil_of_le (Nat.le_of_eq Array.length_toList)]
      rfl
    · show ((T.heap.toList.drop T.heap.size).map (·.slots.size)).sum ≤ 0
      rw [List.drop_eq_nil_of_le (Nat.le_of_eq Array.length_toList)]
      exact Nat.le_refl _
/-- 'throw new E()': new; dup; invokespecial; athrow -/
theorem vx_throw0 {cc : ByteArray} {pc : Nat} (hexec : p.tables.exec = Jvm.exec) (hb : c.code = cc) (hl : l.stackTraces = false) {own cls : String} {names : List String} {ik ic mc ms : Nat} {A : Nat → Prop}
    (hown : s.vm.findClass own = some m.cls) (hcls : Bundle.fit cls = true) (hnames : ∀ n ∈ names, Bundle.fit n = true)
    (hk : (Cond.classLink own ik cls).before args s = true) (hini : (Cond.initialized cls).before args s = true) (hat : ∀ w ∈ vx_at0 own ic cls names, w.before args s = true)
    (hgood : ∀ w ∈ Cond.classLink own ik cls :: Cond.initialized cls :: vx_at0 own ic cls names, vx_ot w = true)
    (hU : vx_Zq Bundle.tN "UNASSIGNED_STACK" Bundle.steD A s s.heap) (hN : vx_Zq Bundle.tN "SUPPRESSED_SENTINEL" Bundle.listD A s s.heap) (hS : va_S A s.heap H locs) (hsize : ls.size = c.maxLocals)
    (d0 : decode cc pc = .ok (.new ik, 3)) (d3 : decode cc (pc + 3) = .ok (.dup, 1)) (d4 : decode cc (pc + 4) = .ok (.invokespecial ic, 3)) (d7 : decode cc (pc + 7) = .ok (.athrow, 1))
    (hout : ∀ x ∈ c.exceptionTable.toList, covers x (pc + 7) = false)
    (hRframes : names.length + 3 < R.frames) (hRlocals : (rest.map fun v => v.category).sum + (13 * (names.length + 1) + 42) ≤ R.locals) (hRcells : cells + 1 ≤ R.cells) (hRslots : slots + 6 ≤ R.slots) (hlocks : meth.locks = false)
    (hx : ∀ t : State, s.vm.Alike t.vm → H.size ≤ t.heap.size → (∀ q : Nat, q < H.size → t.heap[q]? = H[q]?) → XC cls s t)
    (hf : ∀ z ∈ locs, free z.base) (hc : cells + 1 ≤ mc) (hs : slots + 6 ≤ ms) :
    W p l e R s m args below meth c H locs cells slots (vx_MQ below Qc XC args s mc ms free) (F0 m pc ls rest) := by
  intro T hT X
  have htr : e.platform.stackTraces = false := (show e.platform.stackTraces = l.stackTraces by rw [X.admits.platform]).trans hl
  have Y := vx_rebase X (R' := { frames := R.frames, locals := R.locals, cells := 1, slots := 6 }) (Nat.le_refl _) (Nat.le_refl _) hRcells hRslots
  obtain ⟨s', hA⟩ : ∃ z, z = (T.setVm s.vm).setFrames (.invoking m args :: below) := ⟨_, rfl⟩
  rw [← hA] at Y
  have hvm : s'.vm = s.vm := by rw [hA]; rfl
  have hhp : s'.heap = H := by rw [hA]; exact hT
  have hW0 : s.WarmedH s'.vm := by rw [hvm]; exact State.WarmedH.refl s
  have hat' : ∀ w ∈ vx_at0 own ic cls names, w.before args s' = true := fun w hw => vx_ot_at hW0 hvm.symm (hgood w (List.mem_cons_of_mem _ (List.mem_cons_of_mem _ hw))) (hat w hw)
  have hk' : (Cond.classLink own ik cls).before args s' = true := vx_ot_at hW0 hvm.symm (hgood _ List.mem_cons_self) hk
  have hini' : (Cond.initialized cls).before args s' = true := vx_ot_at hW0 hvm.symm (hgood _ (List.mem_cons_of_mem _ List.mem_cons_self)) hini
  have hU' : vx_Zq Bundle.tN "UNASSIGNED_STACK" Bundle.steD A s' s'.heap := by rw [hhp]; exact vx_Zq.moved hW0.alike (hU.kept hS.2.1)
  have hN' : vx_Zq Bundle.tN "SUPPRESSED_SENTINEL" Bundle.listD A s' s'.heap := by rw [hhp]; exact vx_Zq.moved hW0.alike (hN.kept hS.2.1)
  have h : ∀ w ∈ Bundle.ownAtoms0 own ic cls names, w.before args s' = true := vx_own hat' (vx_isRefq hU'.1) (vx_isRefq hN'.1) hU'.2.word hN'.2.word
  have hown' : s'.vm.findClass own = some m.cls := by rw [hvm]; exact hown
  have hins : (Cond.instantiable cls 6).before args s' = true := h _ (by simp [Bundle.ownAtoms0])
  obtain ⟨vm₁, cX, kX, hfX, hkX, -, -, X₁, st1⟩ := Y.newCold hexec (own := own) (C := cls) (index := ik) (n := 6) hown' hk' hins hini'
    (g := F0 m pc ls rest) rfl (by rw [hb]; exact d0) (Nat.le_refl _) (Nat.le_refl _)
  generalize hT1 : (T.setVm vm₁).pushCell { cls := cX, slots := kX.instanceTypes.map defaultValue, vm := .none } = T1 at X₁ st1
  have hcat : (Value.ref T.heap.size).category = 1 := rfl
  have hcellA : T1.heap[T.heap.size]? = some (freshCell cX kX) := by rw [← hT1]; exact State.heap_pushCell_size _ _
  have d3' : decode c.code (pc + 3) = .ok (.dup, 1) := by rw [hb]; exact d3
  obtain ⟨U, hsteps, hrun, hend, hW, hsame, ce, hce, hO⟩ := X₁.ctorThrow0 hexec htr (own := own) (cls := cls) (names := names) (ic := ic) hown' hcls hnames h (fun x hx => nomatch hx) hfX hkX hcellA (by rw [hhp, hT]; exact Nat.le_refl _)
    (g := { method := m, pc := pc + 4, locals := ls, stack := .ref T.heap.size :: .ref T.heap.size :: rest, locked := none }) rfl hsize rfl rfl (rest := rest) rfl
    (by rw [hb]; exact d4) (by rw [hb]; exact d7) hout hRframes (by simp only [List.map_cons, List.sum_cons, hcat]; omega) hlocks
  obtain ⟨f1, f2⟩ := vx_frame hsame
  rw [hhp] at f1 f2
  have hWs : s.WarmedH U.vm := State.WarmedH.trans hW0 hW
  have hcl : s.vm.findClass cls = some ce.cls := by
    have h9 := hO.cls
    rw [hvm] at h9
    exact h9
  have hall : s.sameButNew ({ U with vm := s.vm } : State) locs mc ms := by
    subst hA
    obtain ⟨e1, e2⟩ := hsame
    rw [State.setFrames_setFrames] at e1
    have h2 : (T.setVm s.vm).sameButNew ({ U with vm := s.vm } : State) [] (0 + 1) (0 + 6) := ⟨e1, e2⟩
    have h3 := X.same.trans h2
    rw [List.append_nil] at h3
    exact h3.mono hc hs
  refine ⟨U, ?_, .threw T.heap.size, hrun, hend, Or.inr ⟨T.heap.size, rfl, cls, ce, locs, hx U hWs.alike f1 (fun q hq => f2 q hq (fun z hz => nomatch hz)), hce, hO.vm, hcl, hWs, hall, hf⟩⟩
  refine st1 _ ?_
  show Steps p.tables e below (T1.setTop { method := m, pc := pc + 3, locals := ls, stack := .ref T.heap.size :: rest, locked := none }) _
  jvm_step X₁.here [X₁.here.top, hexec, d3', Value.category]
  exact hsteps
/-- 'throw new E("text")': new; dup; ldc; invokespecial; athrow -/
theorem vx_throwS {cc : ByteArray} {pc : Nat} (hexec : p.tables.exec = Jvm.exec) (hb : c.code = cc) (hl : l.stackTraces = false) {own cls text : String} {names : List String} {ik is ic mc ms sa : Nat} {A : Nat → Prop}
    (hown : s.vm.findClass own = some m.cls) (hcls : Bundle.fit cls = true) (hnames : ∀ n ∈ names, Bundle.fit n = true)
    (hk : (Cond.classLink own ik cls).before args s = true) (hini : (Cond.initialized cls).before args s = true) (hstr : vk_R own is text sa s) (hat : ∀ w ∈ vx_atS own ic cls names, w.before args s = true)
    (hgood : ∀ w ∈ Cond.classLink own ik cls :: Cond.initialized cls :: vx_atS own ic cls names, vx_ot w = true)
    (hU : vx_Zq Bundle.tN "UNASSIGNED_STACK" Bundle.steD A s s.heap) (hN : vx_Zq Bundle.tN "SUPPRESSED_SENTINEL" Bundle.listD A s s.heap) (hS : va_S A s.heap H locs) (hsize : ls.size = c.maxLocals)
    (d0 : decode cc pc = .ok (.new ik, 3)) (d3 : decode cc (pc + 3) = .ok (.dup, 1)) (d4 : decode cc (pc + 4) = .ok (.ldc is, 2)) (d6 : decode cc (pc + 6) = .ok (.invokespecial ic, 3)) (d9 : decode cc (pc + 9) = .ok (.athrow, 1))
    (hout : ∀ x ∈ c.exceptionTable.toList, covers x (pc + 9) = false)
    (hRframes : names.length + 3 < R.frames) (hRlocals : (rest.map fun v => v.category).sum + (13 * (names.length + 1) + 43) ≤ R.locals) (hRcells : cells + 1 ≤ R.cells) (hRslots : slots + 6 ≤ R.slots) (hlocks : meth.locks = false)
    (hx : ∀ t : State, s.vm.Alike t.vm → H.size ≤ t.heap.size → (∀ q : Nat, q < H.size → t.heap[q]? = H[q]?) → XC cls s t)
    (hf : ∀ z ∈ locs, free z.base) (hc : cells + 1 ≤ mc) (hs : slots + 6 ≤ ms) :
    W p l e R s m args below meth c H locs cells slots (vx_MQ below Qc XC args s mc ms free) (F0 m pc ls rest) := by
  intro T hT X
  have htr : e.platform.stackTraces = false := (show e.platform.stackTraces = l.stackTraces by rw [X.admits.platform]).trans hl
  have Y := vx_rebase X (R' := { frames := R.frames, locals := R.locals, cells := 1, slots := 6 }) (Nat.le_refl _) (Nat.le_refl _) hRcells hRslots
  obtain ⟨s', hA⟩ : ∃ z, z = (T.setVm s.vm).setFrames (.invoking m args :: below) := ⟨_, rfl⟩
  rw [← hA] at Y
  have hvm : s'.vm = s.vm := by rw [hA]; rfl
  have hhp : s'.heap = H := by rw [hA]; exact hT
  have hW0 : s.WarmedH s'.vm := by rw [hvm]; exact State.WarmedH.refl s
  have hat' : ∀ w ∈ vx_atS own ic cls names, w.before args s' = true := fun w hw => vx_ot_at hW0 hvm.symm (hgood w (List.mem_cons_of_mem _ (List.mem_cons_of_mem _ hw))) (hat w hw)
  have hk' : (Cond.classLink own ik cls).before args s' = true := vx_ot_at hW0 hvm.symm (hgood _ List.mem_cons_self) hk
  have hini' : (Cond.initialized cls).before args s' = true := vx_ot_at hW0 hvm.symm (hgood _ (List.mem_cons_of_mem _ List.mem_cons_self)) hini
  have hU' : vx_Zq Bundle.tN "UNASSIGNED_STACK" Bundle.steD A s' s'.heap := by rw [hhp]; exact vx_Zq.moved hW0.alike (hU.kept hS.2.1)
  have hN' : vx_Zq Bundle.tN "SUPPRESSED_SENTINEL" Bundle.listD A s' s'.heap := by rw [hhp]; exact vx_Zq.moved hW0.alike (hN.kept hS.2.1)
  have h : ∀ w ∈ Bundle.ownAtoms own ic cls names, w.before args s' = true := vx_own hat' (vx_isRefq hU'.1) (vx_isRefq hN'.1) hU'.2.word hN'.2.word
  have hown' : s'.vm.findClass own = some m.cls := by rw [hvm]; exact hown
  have hins : (Cond.instantiable cls 6).before args s' = true := h _ (by simp [Bundle.ownAtoms])
  obtain ⟨vm₁, cX, kX, hfX, hkX, -, -, X₁, st1⟩ := Y.newCold hexec (own := own) (C := cls) (index := ik) (n := 6) hown' hk' hins hini'
    (g := F0 m pc ls rest) rfl (by rw [hb]; exact d0) (Nat.le_refl _) (Nat.le_refl _)
  generalize hT1 : (T.setVm vm₁).pushCell { cls := cX, slots := kX.instanceTypes.map defaultValue, vm := .none } = T1 at X₁ st1
  have hcat : (Value.ref T.heap.size).category = 1 := rfl
  have hcellA : T1.heap[T.heap.size]? = some (freshCell cX kX) := by rw [← hT1]; exact State.heap_pushCell_size _ _
  have d3' : decode c.code (pc + 3) = .ok (.dup, 1) := by rw [hb]; exact d3
  have d4' : decode c.code (pc + 4) = .ok (.ldc is, 2) := by rw [hb]; exact d4
  have hstr' : vk_R own is text sa s' := vk_R.warm hW0 hstr
  obtain ⟨U, hsteps, hrun, hend, hW, hsame, ce, hce, hO⟩ := X₁.ctorThrowS hexec htr (own := own) (cls := cls) (names := names) (ic := ic) hown' hcls hnames h (fun x hx => nomatch hx) hfX hkX hcellA (by rw [hhp, hT]; exact Nat.le_refl _) (msg := .ref sa) rfl
    (g := { method := m, pc := pc + 6, locals := ls, stack := .ref sa :: .ref T.heap.size :: .ref T.heap.size :: rest, locked := none }) rfl hsize rfl rfl (rest := rest) rfl
    (by rw [hb]; exact d6) (by rw [hb]; exact d9) hout hRframes (by simp only [List.map_cons, List.sum_cons, hcat]; omega) hlocks
  obtain ⟨f1, f2⟩ := vx_frame hsame
  rw [hhp] at f1 f2
  have hWs : s.WarmedH U.vm := State.WarmedH.trans hW0 hW
  have hcl : s.vm.findClass cls = some ce.cls := by
    have h9 := hO.cls
    rw [hvm] at h9
    exact h9
  have hall : s.sameButNew ({ U with vm := s.vm } : State) locs mc ms := by
    subst hA
    obtain ⟨e1, e2⟩ := hsame
    rw [State.setFrames_setFrames] at e1
    have h2 : (T.setVm s.vm).sameButNew ({ U with vm := s.vm } : State) [] (0 + 1) (0 + 6) := ⟨e1, e2⟩
    have h3 := X.same.trans h2
    rw [List.append_nil] at h3
    exact h3.mono hc hs
  refine ⟨U, ?_, .threw T.heap.size, hrun, hend, Or.inr ⟨T.heap.size, rfl, cls, ce, locs, hx U hWs.alike f1 (fun q hq => f2 q hq (fun z hz => nomatch hz)), hce, hO.vm, hcl, hWs, hall, hf⟩⟩
  refine st1 _ ?_
  show Steps p.tables e below (T1.setTop { method := m, pc := pc + 3, locals := ls, stack := .ref T.heap.size :: rest, locked := none }) _
  jvm_step X₁.here [X₁.here.top, hexec, d3', Value.category]
  exact X₁.ldcString hexec (own := own) (text := text) (index := is) (a := sa) hown' hstr'.1 hstr'.2
    (g := { method := m, pc := pc + 4, locals := ls, stack := .ref T.heap.size :: .ref T.heap.size :: rest, locked := none }) rfl d4' _ hsteps
/-- 'throw new E("text")', the text by a wide index -/
theorem vx_throwSW {cc : ByteArray} {pc : Nat} (hexec : p.tables.exec = Jvm.exec) (hb : c.code = cc) (hl : l.stackTraces = false) {own cls text : String} {names : List String} {ik is ic mc ms sa : Nat} {A : Nat → Prop}
    (hown : s.vm.findClass own = some m.cls) (hcls : Bundle.fit cls = true) (hnames : ∀ n ∈ names, Bundle.fit n = true)
    (hk : (Cond.classLink own ik cls).before args s = true) (hini : (Cond.initialized cls).before args s = true) (hstr : vk_R own is text sa s) (hat : ∀ w ∈ vx_atS own ic cls names, w.before args s = true)
    (hgood : ∀ w ∈ Cond.classLink own ik cls :: Cond.initialized cls :: vx_atS own ic cls names, vx_ot w = true)
    (hU : vx_Zq Bundle.tN "UNASSIGNED_STACK" Bundle.steD A s s.heap) (hN : vx_Zq Bundle.tN "SUPPRESSED_SENTINEL" Bundle.listD A s s.heap) (hS : va_S A s.heap H locs) (hsize : ls.size = c.maxLocals)
    (d0 : decode cc pc = .ok (.new ik, 3)) (d3 : decode cc (pc + 3) = .ok (.dup, 1)) (d4 : decode cc (pc + 4) = .ok (.ldc_w is, 3)) (d7 : decode cc (pc + 7) = .ok (.invokespecial ic, 3)) (d10 : decode cc (pc + 10) = .ok (.athrow, 1))
    (hout : ∀ x ∈ c.exceptionTable.toList, covers x (pc + 10) = false)
    (hRframes : names.length + 3 < R.frames) (hRlocals : (rest.map fun v => v.category).sum + (13 * (names.length + 1) + 43) ≤ R.locals) (hRcells : cells + 1 ≤ R.cells) (hRslots : slots + 6 ≤ R.slots) (hlocks : meth.locks = false)
    (hx : ∀ t : State, s.vm.Alike t.vm → H.size ≤ t.heap.size → (∀ q : Nat, q < H.size → t.heap[q]? = H[q]?) → XC cls s t)
    (hf : ∀ z ∈ locs, free z.base) (hc : cells + 1 ≤ mc) (hs : slots + 6 ≤ ms) :
    W p l e R s m args below meth c H locs cells slots (vx_MQ below Qc XC args s mc ms free) (F0 m pc ls rest) := by
  intro T hT X
  have htr : e.platform.stackTraces = false := (show e.platform.stackTraces = l.stackTraces by rw [X.admits.platform]).trans hl
  have Y := vx_rebase X (R' := { frames := R.frames, locals := R.locals, cells := 1, slots := 6 }) (Nat.le_refl _) (Nat.le_refl _) hRcells hRslots
  obtain ⟨s', hA⟩ : ∃ z, z = (T.setVm s.vm).setFrames (.invoking m args :: below) := ⟨_, rfl⟩
  rw [← hA] at Y
  have hvm : s'.vm = s.vm := by rw [hA]; rfl
  have hhp : s'.heap = H := by rw [hA]; exact hT
  have hW0 : s.WarmedH s'.vm := by rw [hvm]; exact State.WarmedH.refl s
  have hat' : ∀ w ∈ vx_atS own ic cls names, w.before args s' = true := fun w hw => vx_ot_at hW0 hvm.symm (hgood w (List.mem_cons_of_mem _ (List.mem_cons_of_mem _ hw))) (hat w hw)
  have hk' : (Cond.classLink own ik cls).before args s' = true := vx_ot_at hW0 hvm.symm (hgood _ List.mem_cons_self) hk
  have hini' : (Cond.initialized cls).before args s' = true := vx_ot_at hW0 hvm.symm (hgood _ (List.mem_cons_of_mem _ List.mem_cons_self)) hini
  have hU' : vx_Zq Bundle.tN "UNASSIGNED_STACK" Bundle.steD A s' s'.heap := by rw [hhp]; exact vx_Zq.moved hW0.alike (hU.kept hS.2.1)
  have hN' : vx_Zq Bundle.tN "SUPPRESSED_SENTINEL" Bundle.listD A s' s'.heap := by rw [hhp]; exact vx_Zq.moved hW0.alike (hN.kept hS.2.1)
  have h : ∀ w ∈ Bundle.ownAtoms own ic cls names, w.before args s' = true := vx_own hat' (vx_isRefq hU'.1) (vx_isRefq hN'.1) hU'.2.word hN'.2.word
  have hown' : s'.vm.findClass own = some m.cls := by rw [hvm]; exact hown
  have hins : (Cond.instantiable cls 6).before args s' = true := h _ (by simp [Bundle.ownAtoms])
  obtain ⟨vm₁, cX, kX, hfX, hkX, -, -, X₁, st1⟩ := Y.newCold hexec (own := own) (C := cls) (index := ik) (n := 6) hown' hk' hins hini'
    (g := F0 m pc ls rest) rfl (by rw [hb]; exact d0) (Nat.le_refl _) (Nat.le_refl _)
  generalize hT1 : (T.setVm vm₁).pushCell { cls := cX, slots := kX.instanceTypes.map defaultValue, vm := .none } = T1 at X₁ st1
  have hcat : (Value.ref T.heap.size).category = 1 := rfl
  have hcellA : T1.heap[T.heap.size]? = some (freshCell cX kX) := by rw [← hT1]; exact State.heap_pushCell_size _ _
  have d3' : decode c.code (pc + 3) = .ok (.dup, 1) := by rw [hb]; exact d3
  have d4' : decode c.code (pc + 4) = .ok (.ldc_w is, 3) := by rw [hb]; exact d4
  have hstr' : vk_R own is text sa s' := vk_R.warm hW0 hstr
  obtain ⟨U, hsteps, hrun, hend, hW, hsame, ce, hce, hO⟩ := X₁.ctorThrowS hexec htr (own := own) (cls := cls) (names := names) (ic := ic) hown' hcls hnames h (fun x hx => nomatch hx) hfX hkX hcellA (by rw [hhp, hT]; exact Nat.le_refl _) (msg := .ref sa) rfl
    (g := { method := m, pc := pc + 7, locals := ls, stack := .ref sa :: .ref T.heap.size :: .ref T.heap.size :: rest, locked := none }) rfl hsize rfl rfl (rest := rest) rfl
    (by rw [hb]; exact d7) (by rw [hb]; exact d10) hout hRframes (by simp only [List.map_cons, List.sum_cons, hcat]; omega) hlocks
  obtain ⟨f1, f2⟩ := vx_frame hsame
  rw [hhp] at f1 f2
  have hWs : s.WarmedH U.vm := State.WarmedH.trans hW0 hW
  have hcl : s.vm.findClass cls = some ce.cls := by
    have h9 := hO.cls
    rw [hvm] at h9
    exact h9
  have hall : s.sameButNew ({ U with vm := s.vm } : State) locs mc ms := by
    subst hA
    obtain ⟨e1, e2⟩ := hsame
    rw [State.setFrames_setFrames] at e1
    have h2 : (T.setVm s.vm).sameButNew ({ U with vm := s.vm } : State) [] (0 + 1) (0 + 6) := ⟨e1, e2⟩
    have h3 := X.same.trans h2
    rw [List.append_nil] at h3
    exact h3.mono hc hs
  refine ⟨U, ?_, .threw T.heap.size, hrun, hend, Or.inr ⟨T.heap.size, rfl, cls, ce, locs, hx U hWs.alike f1 (fun q hq => f2 q hq (fun z hz => nomatch hz)), hce, hO.vm, hcl, hWs, hall, hf⟩⟩
  refine st1 _ ?_
  show Steps p.tables e below (T1.setTop { method := m, pc := pc + 3, locals := ls, stack := .ref T.heap.size :: rest, locked := none }) _
  jvm_step X₁.here [X₁.here.top, hexec, d3', Value.category]
  exact X₁.ldcStringW hexec (own := own) (text := text) (index := is) (a := sa) hown' hstr'.1 hstr'.2
    (g := { method := m, pc := pc + 4, locals := ls, stack := .ref T.heap.size :: .ref T.heap.size :: rest, locked := none }) rfl d4' _ hsteps
end Ends
section Bodies
variable {l : Launch}
theorem vx_ofW {y : MethodName} {ws ws' : List Cond} {rm : Room} {Pc : Array Value → State → Prop} {Qc : Array Value → State → Outcome → State → Prop} {XC : String → State → State → Prop} {mc ms : Nat} {free : Addr → Prop} {cc : ByteArray} {maxL : Nat} {ret : Option FieldType}
    (hy : plainName y.cls = true) (hw : ws = Cond.code y cc maxL ret :: ws')
    (body : ∀ p e s m args below meth c s₁, BodyLoose p l y (headSpec ws rm) cc maxL ret e s m args below meth c s₁ → c.maxLocals = maxL → (∀ x ∈ c.exceptionTable.toList, False) → Pc args s →
      W p l e (headSpec ws rm).room s m args below meth c s.heap [] 0 0 (vx_MQ below Qc XC args s mc ms free) (entryFrame m args maxL)) : vx_Met l y ws rm Pc Qc XC mc ms free := by
  refine MetFree.of_bodyS (code := cc) (maxLocals := maxL) (ret := ret) hy ?_ ?_
  · intro args s m h hn
    obtain ⟨meth, c, h1, h2, h3, h4, h5, h6, -, -⟩ := Cond.code_spec hn (atoms_spec (ws := ws) h _ (by rw [hw]; exact List.mem_cons_self))
    exact ⟨meth, c, h1, h2, h3, h4, h5, h6⟩
  · intro p e s m args below meth c s₁ B hml hP _
    have hh0 : s₁.heap = s.heap := by rw [B.state]; rfl
    have ht : ∀ x ∈ c.exceptionTable.toList, False := by
      obtain ⟨meth9, c9, h1, h2, -, -, -, -, h7, -⟩ := Cond.code_spec B.named (atoms_spec (ws := ws) B.pre _ (by rw [hw]; exact List.mem_cons_self))
      cases Option.some.inj (h1.symm.trans B.method)
      cases Option.some.inj (h2.symm.trans (Stand.of_body B).code)
      intro x hx
      rw [Array.isEmpty_iff.mp h7] at hx
      cases hx
    obtain ⟨t, a1, o, b1, b2, b3⟩ := body p e s m args below meth c s₁ B hml ht hP s₁ hh0 (Stand.of_body B)
    exact ⟨t, o, a1, b1, b2, b3⟩
/-- the table of a body with handlers -/
theorem vx_table {p : Program} {x y : MethodName} {S : Spec} {cc bytes : ByteArray} {maxL maxL' : Nat} {ret ret' : Option FieldType} {e : Env} {s s₁ : State} {m : MethodId} {args : Array Value} {below : List Frame} {meth : Method} {c : Code} {hh : List (Nat × Nat × Nat × Nat)}
    (B : BodyLoose p l y S cc maxL ret e s m args below meth c s₁) (h : (Cond.codeWith y bytes maxL' ret' hh).before args s = true) : c.exceptionTable.toList = tableOf hh := by
  obtain ⟨m9, meth9, c9, hn9, h1, h2, -, -, h6, -⟩ := Cond.codeWith_spec h
  cases Option.some.inj (hn9.symm.trans B.named)
  cases Option.some.inj (h1.symm.trans B.method)
  cases Option.some.inj (h2.symm.trans (Stand.of_body B).code)
  rw [← h6, table_eq]
end Bodies
end VXA
/-! ===== END ===== -/
/-! ===== BEGIN a static call of a method with an exception table ===== -/
section VXS
variable {p : Program} {l : Launch} {e : Env} {R : Room} {s : State} {m : MethodId} {args : Array Value} {below : List Frame} {meth : Method} {c : Code} {T : State} {H : Heap} {locs : List Loc} {cells slots : Nat}
abbrev vx_CSW (R : Room) (s : State) (args : Array Value) (own : String) (index : Nat) (y : MethodName) (bytes : ByteArray) (maxL : Nat) (ret : Option FieldType) (hh : List (Nat × Nat × Nat × Nat)) (ws : List Cond) (rm : Room) (mc ms n : Nat) : Prop :=
  (rm.cells = mc ∧ rm.slots = ms ∧ rm.frames + 1 ≤ R.frames ∧ 8 + (maxL + 11) + rm.locals ≤ R.locals ∧ (∀ w ∈ ws, ∀ (a' : Array Value) (U : State), s.WarmedH U.vm → w.before a' U = true) ∧ Cond.codeWith y bytes maxL ret hh ∈ ws) ∧
  (Cond.codeWith y bytes maxL ret hh).before args s = true ∧ (Cond.initialized y.cls).before args s = true ∧ (y.cls ≠ "java/lang/invoke/MethodHandle" ∧ y.cls ≠ "java/lang/invoke/VarHandle") ∧
  (∀ sig, parseMethodDescriptor y.desc = some sig → n = sig.parameters.length) ∧ (Cond.methodLink own index y).before args s = true ∧ (Cond.static y).before args s = true
theorem vx_cwSW {own : String} {index maxL mc ms : Nat} {y : MethodName} {bytes : ByteArray} {ret : Option FieldType} {hh : List (Nat × Nat × Nat × Nat)} {Ts ws ws' : List Cond} {rm : Room} (n : Nat) (ht : ∀ w ∈ Ts, w.before args s = true) (hT : GoodIn Ts (va_wsS own index y ws)) (hw : ws = Cond.codeWith y bytes maxL ret hh :: ws') (hrc : rm.cells = mc) (hrs : rm.slots = ms)
    (hd : y.cls ≠ "java/lang/invoke/MethodHandle" ∧ y.cls ≠ "java/lang/invoke/VarHandle" ∧ (parseMethodDescriptor y.desc).map (fun d => d.parameters.length) = some n) (hR : rm.frames + 1 ≤ R.frames ∧ 8 + (maxL + 11) + rm.locals ≤ R.locals) :
    vx_CSW R s args own index y bytes maxL ret hh ws rm mc ms n := by
  have ok : ∀ w ∈ va_wsS own index y ws, w.before args s = true := fun w h => ht w (hT w h).1
  have hG : GoodIn Ts ws := fun w h => hT w (by unfold va_wsS; exact List.mem_append_right _ h)
  have hc : Cond.codeWith y bytes maxL ret hh ∈ ws := by rw [hw]; exact List.mem_cons_self
  refine ⟨⟨hrc, hrs, hR.1, hR.2, pay_in ht hG, hc⟩, ht _ (hG _ hc).1, ok _ (by simp [va_wsS]), ⟨hd.1, hd.2.1⟩, fun sig h => ?_, ok _ (by simp [va_wsS]), ok _ (by simp [va_wsS])⟩
  have h2 := hd.2.2
  rw [h] at h2
  exact (Option.some.inj h2).symm
theorem vx_callSW (X : Stand p l e R s m args below meth c T locs cells slots) (hexec : p.tables.exec = Jvm.exec) {own : String} {index : Nat} {y : MethodName} {bytes : ByteArray} {maxL : Nat} {ret : Option FieldType} {hh : List (Nat × Nat × Nat × Nat)}
    (hown : s.vm.findClass own = some m.cls) (hlink : (Cond.methodLink own index y).before args s = true) (hstat : (Cond.static y).before args s = true) (hinit : (Cond.initialized y.cls).before args s = true)
    (hcode : (Cond.codeWith y bytes maxL ret hh).before args s = true) (hy : y.cls ≠ "java/lang/invoke/MethodHandle" ∧ y.cls ≠ "java/lang/invoke/VarHandle")
    {W9 : Nat} {Pre : Pt → Array Value → Prop} {Post : Pt → Array Value → Option Value → Pt → Prop} (hK : Back l R p e below s args y 3 W9 Pre Post)
    {g : JFrame} (hg : g.method = m) (hsize : g.locals.size = c.maxLocals) {argsL rest : List Value} (hlen : ∀ sig, parseMethodDescriptor y.desc = some sig → argsL.length = sig.parameters.length)
    (hstack : g.stack = argsL.reverse ++ rest) (hW : 2 * g.monitorRoom + (rest.map fun v => v.category).sum ≤ W9) (hdg : decode c.code g.pc = .ok (.invokestatic index, 3))
    (hpre : ∀ vm₁, s.WarmedH vm₁ → Pre ⟨T.setVm vm₁, locs, cells, slots⟩ argsL.toArray) :
    ∃ (v : Option Value) (vm₁ : Vm) (B : Pt), s.WarmedH vm₁ ∧ Stand p l e R s m args below meth c B.U B.locs B.cells B.slots ∧ Post ⟨T.setVm vm₁, locs, cells, slots⟩ argsL.toArray v B ∧
      ∀ target, Steps p.tables e below (B.U.setTop { g with pc := g.pc + 3, stack := v.toList ++ rest }) target → Steps p.tables e below (T.setTop g) target := by
  obtain ⟨mk, methM, cM, hnamed, hmethM, -, -, -, -, -, -, hsigM⟩ := Cond.codeWith_spec hcode
  have hstatic : methM.isStatic = true := Cond.static_spec hnamed hmethM hstat
  obtain ⟨kP, hkP, -⟩ := className_of_methodNamed hnamed
  have hinitP : kP.init = .initialized := Cond.initialized_spec (findClass_of_methodNamed hnamed) hkP hinit
  obtain ⟨vm₁, X₁, hstep₁⟩ := X.invokestatic hexec hown hlink hnamed hmethM hstatic hkP hinitP hy (g := g) hg (argsL := argsL) (rest := rest) (hlen _ hsigM) hstack hdg
  obtain ⟨v, B, X', hpost, hsteps⟩ := hK m meth c ⟨T.setVm vm₁, locs, cells, slots⟩ { g with stack := rest } (.invokestatic index) mk argsL.toArray X₁ hg hsize hdg hW (X₁.named hnamed) (hpre vm₁ X₁.warmed)
  exact ⟨v, vm₁, B, X₁.warmed, X', hpost, fun target h => hstep₁ _ fun acts => by rw [doInvoke_state]; exact hsteps.trans h⟩
theorem vx_runSW {y : MethodName} {bytes cc : ByteArray} {maxL nL mc ms n index : Nat} {ret : Option FieldType} {hh : List (Nat × Nat × Nat × Nat)} {ws : List Cond} {rm : Room} {Pc : Array Value → State → Prop} {Qc : Array Value → State → Outcome → State → Prop} {free : Addr → Prop} {Ts : List Cond} {own : String} {As rest : List Value} {g : JFrame}
    (S : CallFix p m c cc nL s args Ts own) (hM : Met l y ws rm Pc Qc mc ms free) (cw : vx_CSW R s args own index y bytes maxL ret hh ws rm mc ms n) (hp : PreS s H Pc As)
    (hg : g.method = m) (hn : As.length = n) (hsize : g.locals.size = nL) (hstack : g.stack = As.reverse ++ rest) (hW : 2 * g.monitorRoom + (rest.map fun v => v.category).sum ≤ 8) (hdg : decode cc g.pc = .ok (.invokestatic index, 3)) (hf : cells + mc ≤ R.cells ∧ slots + ms ≤ R.slots) :
    va_Run p l e R s m args below meth c H locs cells slots mc ms g rest (Qc As.toArray) (free) := by
  obtain ⟨⟨hrc, hrs, hfr, hlo, hws, hcw⟩, hcode, hini, hy, hlen, hl, hstt⟩ := cw
  have hK : Back l R p e below s args y 3 8 (PreOf R mc ms Pc) (PostOf Qc mc ms free) := va_backW (hh := hh) (bytes := bytes) (maxL := maxL) (ret := ret) hM hp.1 hrc hrs hfr hlo hws hcw (fun a' U hW => word_at hW (Or.inl (by first | rfl | simp [Cond.onTables, Cond.keeps, Cond.steady])) hini)
  obtain ⟨hx, hb, hml, ho, -⟩ := S
  intro T hT X
  obtain ⟨v, vm₁, ⟨U', l2, c2, s2⟩, hW₁, X', ⟨g', mk, t, L, e1, e2, hq, h1, hL, h2, h3⟩, st⟩ := vx_callSW X hx (hh := hh) (bytes := bytes) (maxL := maxL) (ret := ret) ho hl hstt hini hcode hy hK hg (hsize.trans hml.symm) (argsL := As) (rest := rest) (fun sig h => hn.trans (hlen sig h)) hstack hW (by rw [hb]; exact hdg)
    (fun vm₁ hW₁ => ⟨hf.1, hf.2, hp.2 (T.setVm vm₁) hT hW₁⟩)
  dsimp only [Pt.U, Pt.locs, Pt.cells, Pt.slots] at X' e1 e2 h1 h2 h3 st
  subst h1; subst h2; subst h3
  exact ⟨v, (T.setVm vm₁).calling g' mk As.toArray, t, U', L, hT, X', hL, e1, e2, hq, st⟩
/-- not caught here, past rows that name other classes: it goes on to the caller -/
theorem vx_outP {p : Program} {l : Launch} {e : Env} {R : Room} {s : State} {m : MethodId} {args : Array Value} {below : List Frame} {meth : Method} {c : Code} {H : Heap} {locs : List Loc} {cells slots : Nat} {free : Addr → Prop} {ls : Array Slot} {rest : List Value} {Qc : Array Value → State → Outcome → State → Prop} {XC : String → State → State → Prop}
    {pc : Nat} {own E : String} {ce : Cell} {q : Addr} {mc ms : Nat} (hown : s.vm.findClass own = some m.cls) (hlocks : meth.locks = false)
    (hpass : ∀ z ∈ c.exceptionTable.toList, covers z pc = false ∨ (z.catchType ≠ 0 ∧ ∃ nm : String, (Cond.classLink own z.catchType nm).before args s = true ∧ va_Nc E nm s)) (hcell : H[q]? = some ce) (hv : ce.vm = .none) (hcl : s.vm.findClass E = some ce.cls)
    (hx : ∀ t : State, t.heap = H → s.vm.Alike t.vm → XC E s t) (hf : ∀ z ∈ locs, free z.base) (hc : cells ≤ mc) (hs : slots ≤ ms) :
    vx_W p l e R s m args below meth c H locs cells slots (vx_MQ below Qc XC args s mc ms free) (F0 m pc ls rest) q := by
  intro T hT X
  have hpl : e.platform.magicAccessors = ({} : Platform).magicAccessors := by rw [X.admits.platform]
  obtain ⟨vm', hW', X', st⟩ := X.outThrough hlocks q (g := F0 m pc ls rest) rfl rfl rfl (cell := ce) (by rw [hT]; exact hcell) (by rw [hv]; rfl)
    (by obtain ⟨k9, h9, -⟩ := Vm.findClass_spec hcl; exact ⟨k9, h9⟩) (fun z hz => by
      rcases hpass z hz with h | ⟨hz0, nm, hl1, hn1⟩
      · exact Or.inl h
      · obtain ⟨c6, hc6, hcl6⟩ := Cond.classLink_spec hown hl1 e.platform hpl
        obtain ⟨a8, b8, h1, h2, h3⟩ := hn1
        cases Option.some.inj (h1.symm.trans hcl)
        cases Option.some.inj (h2.symm.trans hc6)
        exact Or.inr ⟨hz0, _, hcl6, h3⟩)
  obtain ⟨g₀, hfr⟩ := X'.frames_eq
  have hcell9 : ((T.setVm vm').setFrames (.throwing q :: below)).heap[q]? = some ce := by
    show T.heap[q]? = some ce
    rw [hT]; exact hcell
  have hend : Ended ((T.setVm vm').setFrames (.throwing q :: below)) below (.threw q) := State.frames_setFrames _ (State.cur_lt_of_frames hfr)
  refine ⟨(T.setVm vm').setFrames (.throwing q :: below), ?_, .threw q, X'.here.running, hend, Or.inr ⟨q, rfl, E, ce, locs, hx _ hT (X'.ends _).1.alike, hcell9, hv, hcl, (X'.ends _).1, (X'.ends _).2.mono hc hs, hf⟩⟩
  rw [X.pushThrowing_eq]
  exact st
/-- a thing of a world lies in the heap -/
theorem vx_lt {D : va_G} {cl : List vw_C} {ws : va_W} {H1 : Heap} (h : va_P D cl ws H1) {k : Nat} {q : Nat × va_E} (hk : ws[k]? = some q) : q.1 < H1.size := (h k q hk).lt
end VXS
/-! ===== END ===== -/
/-! ===== BEGIN methods with a table of their own: called by a name, returning or throwing ===== -/
section VXH
/-! vx_backW, vx_callVX, vx_callSX, vx_callVW, vx_runVW, vx_runVX, vx_runSX, vx_ofWH follow the same proofs as their sisters above (Free/Laws.lean, Shelf42/LK1.lean); vx_outP calls Shelf42/NT130.lean (outThrough). -/
section
variable {l : Launch} {R : Room} {p : Program} {e : Env} {below : List Frame} {s : State} {sargs : Array Value} {y : MethodName} {len W9 : Nat}
theorem vx_backW {ws : List Cond} {rm : Room} {Pc : Array Value → State → Prop} {Qc : Array Value → State → Outcome → State → Prop} {XC : String → State → State → Prop} {mc ms : Nat} {free : Addr → Prop} {bytes : ByteArray} {maxL : Nat} {ret : Option FieldType} {hh : List (Nat × Nat × Nat × Nat)}
    (hM : vx_Met l y ws rm Pc Qc XC mc ms free) (hblind : FrameBlind Pc) (hrc : rm.cells = mc) (hrs : rm.slots = ms)
    (hframes : rm.frames + 1 ≤ R.frames) (hlocals : W9 + (maxL + 11) + rm.locals ≤ R.locals)
    (hws : ∀ w ∈ ws, ∀ a' U, s.WarmedH U.vm → w.before a' U = true) (hcode : Cond.codeWith y bytes maxL ret hh ∈ ws) (hinit : ∀ a' U, s.WarmedH U.vm → (Cond.initialized y.cls).before a' U = true) :
    vx_Back l R p e below s sargs y len W9 (PreOf R mc ms Pc) (PostOf Qc mc ms free) (vx_Post XC mc ms free) := by
  intro m meth c A g ig mk a X hg hsize hdg hW hn hp
  have h1 : (headSpec ws rm).pre.before a A.U = true := atoms_intro fun w hw => hws w hw _ _ X.warmed
  have h2 : (Cond.codeWith y bytes maxL ret hh).before a A.U = true := hws _ hcode _ _ X.warmed
  have h3 : (Cond.initialized y.cls).before a A.U = true := hinit _ _ X.warmed
  have h4 : A.cells + (headSpec ws rm).room.cells ≤ R.cells := by rw [show (headSpec ws rm).room.cells = mc from hrc]; exact hp.1
  have h5 : A.slots + (headSpec ws rm).room.slots ≤ R.slots := by rw [show (headSpec ws rm).room.slots = ms from hrs]; exact hp.2.1
  have hPc : Pc a (A.U.calling g mk a) := hblind _ _ _ _ hp.2.2
  obtain ⟨U, Ls, c0, s0⟩ := A
  dsimp only [Pt.U, Pt.locs, Pt.cells, Pt.slots] at h1 h2 h3 h4 h5 X hn hPc ⊢
  obtain ⟨m9, methY, cY, hn9, hmY, hcY, -, hlY, -⟩ := Cond.codeWith_spec h2
  cases Option.some.inj (hn9.symm.trans hn)
  obtain ⟨kY, hkY, -⟩ := className_of_methodNamed hn
  have hinitY : kY.init = .initialized := Cond.initialized_spec (findClass_of_methodNamed hn) hkY h3
  have h : At U g.method c below := by rw [hg]; exact X.here
  have hlocals9 : W9 + (maxL + 11) + (headSpec ws rm).room.locals ≤ R.locals := hlocals
  have happ : (headSpec ws rm).appliesLoose y e.platform (U.calling g mk a) = true :=
    Spec.appliesLoose_calling (g := g) h hdg hn hkY hinitY
      (X.room_calling (g := g) (R' := (headSpec ws rm).room) hsize hmY hcY hframes (by rw [hlY]; omega) h4 h5) h1
  obtain ⟨mid, hmid⟩ := h.above
  have hfr : (U.setTop g).frames = (.java g :: mid) ++ below := by rw [State.frames_setTop' g h.top, hmid]; rfl
  obtain ⟨o, s₂, hsteps, -, hend, hq⟩ := Steps.callFree hM p X.admits X.cas X.clock (acts := []) hfr happ hPc trivial
  have hq' : vx_Q Qc XC mc ms free a (U.calling g mk a) o s₂ := hq
  rw [State.frames_setTop' g h.top] at hend
  obtain ⟨g₀, hg0⟩ := Option.isSome_iff_exists.mp h.top
  obtain ⟨r, hr⟩ := State.topJava?_eq_some.mp hg0
  have hr' : (({ U with heap := s₂.heap, slotsUsed := s₂.slotsUsed } : State).setVm s₂.vm).frames = .java g₀ :: r := hr
  rcases hq' with ⟨hqc, L, hfe, hL⟩ | ⟨q, rfl, E, ce, L, hx, hce, hcv, hcl, hW₂, hsm, hL⟩
  · obtain ⟨⟨v, rfl⟩, hW₂, e2, q2, q3, q4, q5, q6⟩ := id hfe
    have e3 : s₂ = ({ (U.calling g mk a).setFrames s₂.frames with heap := s₂.heap, slotsUsed := s₂.slotsUsed } : State).setVm s₂.vm := by
      have : s₂ = ({ s₂ with vm := (U.calling g mk a).vm } : State).setVm s₂.vm := rfl
      rw [e2] at this
      exact this
    obtain ⟨c₂, i₂, len₂, hc₂, hd₂, hf₂⟩ := hend
    have hW' : U.WarmedH s₂.vm := hW₂
    have hcc : c₂ = c := by
      have h1 : s₂.code? g.method = U.code? g.method := by
        rw [State.code?_eq, State.code?_eq, hW'.alike.method?]
      exact Option.some.inj (hc₂.symm.trans (h1.trans h.code))
    subst hcc
    have hlen : len₂ = len := by rw [hdg] at hd₂; cases hd₂; rfl
    subst hlen
    have hs₂ : s₂ = (({ U with heap := s₂.heap, slotsUsed := s₂.slotsUsed } : State).setVm s₂.vm).setTop { g with pc := g.pc + len₂, stack := v.toList ++ g.stack } := by
      refine e3.trans ?_
      rw [hf₂, State.calling_eq h.top, State.setFrames_setFrames, State.setTop_of_frames _ hr', hr]
      rfl
    have hsame : U.sameButNew ({ U with heap := s₂.heap, slotsUsed := s₂.slotsUsed } : State) L mc ms := by
      refine ⟨?_, q2, q3, q4, q5, q6⟩
      obtain ⟨t, ht, -⟩ := State.frames_cons hr
      show ({ U with heap := s₂.heap, slotsUsed := s₂.slotsUsed } : State) = { U.setFrames U.frames with heap := s₂.heap, slotsUsed := s₂.slotsUsed }
      rw [State.setFrames_self ht]
    subst hg
    refine Or.inl ⟨v, ⟨(({ U with heap := s₂.heap, slotsUsed := s₂.slotsUsed } : State).setVm s₂.vm), Ls ++ L, c0 + mc, s0 + ms⟩,
      ⟨X.admits, X.cas, X.clock, X.frames, X.room, X.hears, X.method, X.code, (X.here.setHeapUsed s₂.heap s₂.slotsUsed).setVm hW'.alike, X.tail, State.WarmedH.trans X.warmed hW', X.limits, X.bytes, X.same.trans (hsame.setVm s.vm)⟩,
      ⟨g, mk, s₂, L, rfl, rfl, hqc, rfl, hL, rfl, rfl⟩, ?_⟩
    show Steps p.tables e below _ ((({ U with heap := s₂.heap, slotsUsed := s₂.slotsUsed } : State).setVm s₂.vm).setTop { g with pc := g.pc + len₂, stack := v.toList ++ g.stack })
    rw [← hs₂]
    exact hsteps
  · obtain ⟨e2, q2, q3, q4, q5, q6⟩ := id hsm
    have e3 : s₂ = ({ (U.calling g mk a).setFrames s₂.frames with heap := s₂.heap, slotsUsed := s₂.slotsUsed } : State).setVm s₂.vm := by
      have : s₂ = ({ s₂ with vm := (U.calling g mk a).vm } : State).setVm s₂.vm := rfl
      rw [e2] at this
      exact this
    have hf₂ : s₂.frames = .throwing q :: .java g :: U.frames.tail := hend
    have hW' : U.WarmedH s₂.vm := hW₂
    have hs₂ : s₂ = ((({ U with heap := s₂.heap, slotsUsed := s₂.slotsUsed } : State).setVm s₂.vm).setTop g).pushFrame (.throwing q) := by
      refine e3.trans ?_
      rw [hf₂, State.calling_eq h.top, State.setFrames_setFrames, State.pushFrame, State.frames_setTop _ hr', State.setTop_of_frames _ hr', State.setFrames_setFrames, hr]
      rfl
    have hsame : U.sameButNew ({ U with heap := s₂.heap, slotsUsed := s₂.slotsUsed } : State) L mc ms := by
      refine ⟨?_, q2, q3, q4, q5, q6⟩
      obtain ⟨t, ht, -⟩ := State.frames_cons hr
      show ({ U with heap := s₂.heap, slotsUsed := s₂.slotsUsed } : State) = { U.setFrames U.frames with heap := s₂.heap, slotsUsed := s₂.slotsUsed }
      rw [State.setFrames_self ht]
    subst hg
    refine Or.inr ⟨q, ⟨(({ U with heap := s₂.heap, slotsUsed := s₂.slotsUsed } : State).setVm s₂.vm), Ls ++ L, c0 + mc, s0 + ms⟩,
      ⟨X.admits, X.cas, X.clock, X.frames, X.room, X.hears, X.method, X.code, (X.here.setHeapUsed s₂.heap s₂.slotsUsed).setVm hW'.alike, X.tail, State.WarmedH.trans X.warmed hW', X.limits, X.bytes, X.same.trans (hsame.setVm s.vm)⟩,
      ⟨g, mk, s₂, L, E, ce, rfl, rfl, hx, hce, hcv, hcl, rfl, hL, rfl, rfl⟩, ?_⟩
    show Steps p.tables e below _ (((({ U with heap := s₂.heap, slotsUsed := s₂.slotsUsed } : State).setVm s₂.vm).setTop g).pushFrame (.throwing q))
    rw [← hs₂]
    exact hsteps
end
variable {p : Program} {l : Launch} {e : Env} {R : Room} {s : State} {m : MethodId} {args : Array Value} {below : List Frame} {meth : Method} {c : Code} {T : State} {H : Heap} {locs : List Loc} {cells slots : Nat}
theorem vx_callVX (X : Stand p l e R s m args below meth c T locs cells slots) (hexec : p.tables.exec = Jvm.exec) {own C : String} {index : Nat} {y : MethodName} {bytes : ByteArray} {maxL : Nat} {ret : Option FieldType} {hh : List (Nat × Nat × Nat × Nat)}
    (hown : s.vm.findClass own = some m.cls) (hlink : (Cond.methodLink own index y).before args s = true) (hinst : (Cond.instanceMethod y).before args s = true) (hsel : (Cond.selects C y y).before args s = true)
    (hcode : (Cond.codeWith y bytes maxL ret hh).before args s = true) (hy : y.cls ≠ "java/lang/invoke/MethodHandle" ∧ y.cls ≠ "java/lang/invoke/VarHandle")
    {W9 : Nat} {Pre : Pt → Array Value → Prop} {Post : Pt → Array Value → Option Value → Pt → Prop} {PostX : Pt → Array Value → Addr → Pt → Prop} (hK : vx_Back l R p e below s args y 3 W9 Pre Post PostX)
    {b : Addr} {cellB : Cell} (hcell : T.heap[b]? = some cellB) (hobj : cellB.vm.isStatics = false) (hcls : s.vm.findClass C = some cellB.cls)
    {g : JFrame} (hg : g.method = m) (hsize : g.locals.size = c.maxLocals) {argsL rest : List Value} (hlen : ∀ sig, parseMethodDescriptor y.desc = some sig → argsL.length = sig.parameters.length)
    (hstack : g.stack = argsL.reverse ++ .ref b :: rest) (hW : 2 * g.monitorRoom + (rest.map fun v => v.category).sum ≤ W9) (hdg : decode c.code g.pc = .ok (.invokevirtual index, 3))
    (hpre : ∀ vm₁, s.WarmedH vm₁ → Pre ⟨T.setVm vm₁, locs, cells, slots⟩ (Value.ref b :: argsL).toArray) :
    (∃ (v : Option Value) (vm₁ : Vm) (B : Pt), s.WarmedH vm₁ ∧ Stand p l e R s m args below meth c B.U B.locs B.cells B.slots ∧ Post ⟨T.setVm vm₁, locs, cells, slots⟩ (Value.ref b :: argsL).toArray v B ∧
      ∀ target, Steps p.tables e below (B.U.setTop { g with pc := g.pc + 3, stack := v.toList ++ rest }) target → Steps p.tables e below (T.setTop g) target) ∨
    (∃ (q : Addr) (vm₁ : Vm) (B : Pt), s.WarmedH vm₁ ∧ Stand p l e R s m args below meth c B.U B.locs B.cells B.slots ∧ PostX ⟨T.setVm vm₁, locs, cells, slots⟩ (Value.ref b :: argsL).toArray q B ∧
      Steps p.tables e below (T.setTop g) ((B.U.setTop { g with stack := rest }).pushFrame (.throwing q))) := by
  obtain ⟨mk, methM, hnamed, hmethM, hstM, habM⟩ := Cond.instanceMethod_spec hinst
  obtain ⟨m8, methM', cM, hn8, hmethM', -, -, -, -, -, -, hsigM⟩ := Cond.codeWith_spec hcode
  cases Option.some.inj (hn8.symm.trans hnamed)
  cases hmethM.symm.trans hmethM'
  obtain ⟨c2, r2, m2, q1, q2, q3, q4, kP, hkP, hkPi⟩ := Cond.selects_spec hsel
  cases hcls.symm.trans q1
  cases (State.methodFound?_of_named hnamed hy).symm.trans q2
  cases hnamed.symm.trans q3
  have hselP : selectMethod e.platform s.vm cellB.cls mk = .method mk := by rw [Launch.admits_selectMethod X.admits]; exact q4
  obtain ⟨vm₁, X₁, hstep₁⟩ := X.invokevirtual hexec hown hlink hnamed hmethM hstM hkP hkPi hy (a := b) (cell := cellB) hcell
    (fun z h => by rw [h] at hobj; cases hobj) hselP hmethM habM hkP hkPi (g := g) hg (argsL := argsL) (rest := rest) (hlen _ hsigM) hstack hdg
  rcases hK m meth c ⟨T.setVm vm₁, locs, cells, slots⟩ { g with stack := rest } (.invokevirtual index) mk (Value.ref b :: argsL).toArray X₁ hg hsize hdg hW (X₁.named hnamed) (hpre vm₁ X₁.warmed) with ⟨v, B, X', hpost, hsteps⟩ | ⟨q, B, X', hpost, hsteps⟩
  · exact Or.inl ⟨v, vm₁, B, X₁.warmed, X', hpost, fun target h => hstep₁ _ fun acts => by rw [doInvoke_state]; exact hsteps.trans h⟩
  · exact Or.inr ⟨q, vm₁, B, X₁.warmed, X', hpost, hstep₁ _ fun acts => by rw [doInvoke_state]; exact hsteps⟩
theorem vx_callSX (X : Stand p l e R s m args below meth c T locs cells slots) (hexec : p.tables.exec = Jvm.exec) {own : String} {index : Nat} {y : MethodName} {bytes : ByteArray} {maxL : Nat} {ret : Option FieldType} {hh : List (Nat × Nat × Nat × Nat)}
    (hown : s.vm.findClass own = some m.cls) (hlink : (Cond.methodLink own index y).before args s = true) (hstat : (Cond.static y).before args s = true) (hinit : (Cond.initialized y.cls).before args s = true)
    (hcode : (Cond.codeWith y bytes maxL ret hh).before args s = true) (hy : y.cls ≠ "java/lang/invoke/MethodHandle" ∧ y.cls ≠ "java/lang/invoke/VarHandle")
    {W9 : Nat} {Pre : Pt → Array Value → Prop} {Post : Pt → Array Value → Option Value → Pt → Prop} {PostX : Pt → Array Value → Addr → Pt → Prop} (hK : vx_Back l R p e below s args y 3 W9 Pre Post PostX)
    {g : JFrame} (hg : g.method = m) (hsize : g.locals.size = c.maxLocals) {argsL rest : List Value} (hlen : ∀ sig, parseMethodDescriptor y.desc = some sig → argsL.length = sig.parameters.length)
    (hstack : g.stack = argsL.reverse ++ rest) (hW : 2 * g.monitorRoom + (rest.map fun v => v.category).sum ≤ W9) (hdg : decode c.code g.pc = .ok (.invokestatic index, 3))
    (hpre : ∀ vm₁, s.WarmedH vm₁ → Pre ⟨T.setVm vm₁, locs, cells, slots⟩ argsL.toArray) :
    (∃ (v : Option Value) (vm₁ : Vm) (B : Pt), s.WarmedH vm₁ ∧ Stand p l e R s m args below meth c B.U B.locs B.cells B.slots ∧ Post ⟨T.setVm vm₁, locs, cells, slots⟩ argsL.toArray v B ∧
      ∀ target, Steps p.tables e below (B.U.setTop { g with pc := g.pc + 3, stack := v.toList ++ rest }) target → Steps p.tables e below (T.setTop g) target) ∨
    (∃ (q : Addr) (vm₁ : Vm) (B : Pt), s.WarmedH vm₁ ∧ Stand p l e R s m args below meth c B.U B.locs B.cells B.slots ∧ PostX ⟨T.setVm vm₁, locs, cells, slots⟩ argsL.toArray q B ∧
      Steps p.tables e below (T.setTop g) ((B.U.setTop { g with stack := rest }).pushFrame (.throwing q))) := by
  obtain ⟨mk, methM, cM, hnamed, hmethM, -, -, -, -, -, -, hsigM⟩ := Cond.codeWith_spec hcode
  have hstatic : methM.isStatic = true := Cond.static_spec hnamed hmethM hstat
  obtain ⟨kP, hkP, -⟩ := className_of_methodNamed hnamed
  have hinitP : kP.init = .initialized := Cond.initialized_spec (findClass_of_methodNamed hnamed) hkP hinit
  obtain ⟨vm₁, X₁, hstep₁⟩ := X.invokestatic hexec hown hlink hnamed hmethM hstatic hkP hinitP hy (g := g) hg (argsL := argsL) (rest := rest) (hlen _ hsigM) hstack hdg
  rcases hK m meth c ⟨T.setVm vm₁, locs, cells, slots⟩ { g with stack := rest } (.invokestatic index) mk argsL.toArray X₁ hg hsize hdg hW (X₁.named hnamed) (hpre vm₁ X₁.warmed) with ⟨v, B, X', hpost, hsteps⟩ | ⟨q, B, X', hpost, hsteps⟩
  · exact Or.inl ⟨v, vm₁, B, X₁.warmed, X', hpost, fun target h => hstep₁ _ fun acts => by rw [doInvoke_state]; exact hsteps.trans h⟩
  · exact Or.inr ⟨q, vm₁, B, X₁.warmed, X', hpost, hstep₁ _ fun acts => by rw [doInvoke_state]; exact hsteps⟩
theorem vx_callVW (X : Stand p l e R s m args below meth c T locs cells slots) (hexec : p.tables.exec = Jvm.exec) {own C : String} {index : Nat} {y : MethodName} {bytes : ByteArray} {maxL : Nat} {ret : Option FieldType} {hh : List (Nat × Nat × Nat × Nat)}
    (hown : s.vm.findClass own = some m.cls) (hlink : (Cond.methodLink own index y).before args s = true) (hinst : (Cond.instanceMethod y).before args s = true) (hsel : (Cond.selects C y y).before args s = true)
    (hcode : (Cond.codeWith y bytes maxL ret hh).before args s = true) (hy : y.cls ≠ "java/lang/invoke/MethodHandle" ∧ y.cls ≠ "java/lang/invoke/VarHandle")
    {W9 : Nat} {Pre : Pt → Array Value → Prop} {Post : Pt → Array Value → Option Value → Pt → Prop} (hK : Back l R p e below s args y 3 W9 Pre Post)
    {b : Addr} {cellB : Cell} (hcell : T.heap[b]? = some cellB) (hobj : cellB.vm.isStatics = false) (hcls : s.vm.findClass C = some cellB.cls)
    {g : JFrame} (hg : g.method = m) (hsize : g.locals.size = c.maxLocals) {argsL rest : List Value} (hlen : ∀ sig, parseMethodDescriptor y.desc = some sig → argsL.length = sig.parameters.length)
    (hstack : g.stack = argsL.reverse ++ .ref b :: rest) (hW : 2 * g.monitorRoom + (rest.map fun v => v.category).sum ≤ W9) (hdg : decode c.code g.pc = .ok (.invokevirtual index, 3))
    (hpre : ∀ vm₁, s.WarmedH vm₁ → Pre ⟨T.setVm vm₁, locs, cells, slots⟩ (Value.ref b :: argsL).toArray) :
    ∃ (v : Option Value) (vm₁ : Vm) (B : Pt), s.WarmedH vm₁ ∧ Stand p l e R s m args below meth c B.U B.locs B.cells B.slots ∧ Post ⟨T.setVm vm₁, locs, cells, slots⟩ (Value.ref b :: argsL).toArray v B ∧
      ∀ target, Steps p.tables e below (B.U.setTop { g with pc := g.pc + 3, stack := v.toList ++ rest }) target → Steps p.tables e below (T.setTop g) target := by
  obtain ⟨mk, methM, hnamed, hmethM, hstM, habM⟩ := Cond.instanceMethod_spec hinst
  obtain ⟨m8, methM', cM, hn8, hmethM', -, -, -, -, -, -, hsigM⟩ := Cond.codeWith_spec hcode
  cases Option.some.inj (hn8.symm.trans hnamed)
  cases hmethM.symm.trans hmethM'
  obtain ⟨c2, r2, m2, q1, q2, q3, q4, kP, hkP, hkPi⟩ := Cond.selects_spec hsel
  cases hcls.symm.trans q1
  cases (State.methodFound?_of_named hnamed hy).symm.trans q2
  cases hnamed.symm.trans q3
  have hselP : selectMethod e.platform s.vm cellB.cls mk = .method mk := by rw [Launch.admits_selectMethod X.admits]; exact q4
  obtain ⟨vm₁, X₁, hstep₁⟩ := X.invokevirtual hexec hown hlink hnamed hmethM hstM hkP hkPi hy (a := b) (cell := cellB) hcell
    (fun z h => by rw [h] at hobj; cases hobj) hselP hmethM habM hkP hkPi (g := g) hg (argsL := argsL) (rest := rest) (hlen _ hsigM) hstack hdg
  obtain ⟨v, B, X', hpost, hsteps⟩ := hK m meth c ⟨T.setVm vm₁, locs, cells, slots⟩ { g with stack := rest } (.invokevirtual index) mk (Value.ref b :: argsL).toArray X₁ hg hsize hdg hW (X₁.named hnamed) (hpre vm₁ X₁.warmed)
  exact ⟨v, vm₁, B, X₁.warmed, X', hpost, fun target h => hstep₁ _ fun acts => by rw [doInvoke_state]; exact hsteps.trans h⟩
abbrev vx_CVW (R : Room) (s : State) (args : Array Value) (own C : String) (index : Nat) (y : MethodName) (bytes : ByteArray) (maxL : Nat) (ret : Option FieldType) (hh : List (Nat × Nat × Nat × Nat)) (ws : List Cond) (rm : Room) (mc ms n : Nat) : Prop :=
  (rm.cells = mc ∧ rm.slots = ms ∧ rm.frames + 1 ≤ R.frames ∧ 8 + (maxL + 11) + rm.locals ≤ R.locals ∧ (∀ w ∈ ws, ∀ (a' : Array Value) (U : State), s.WarmedH U.vm → w.before a' U = true) ∧ Cond.codeWith y bytes maxL ret hh ∈ ws) ∧
  (Cond.codeWith y bytes maxL ret hh).before args s = true ∧ (Cond.initialized y.cls).before args s = true ∧ (y.cls ≠ "java/lang/invoke/MethodHandle" ∧ y.cls ≠ "java/lang/invoke/VarHandle") ∧
  (∀ sig, parseMethodDescriptor y.desc = some sig → n = sig.parameters.length) ∧ (Cond.methodLink own index y).before args s = true ∧ (Cond.instanceMethod y).before args s = true ∧ (Cond.selects C y y).before args s = true
theorem vx_cwVW {own C : String} {index maxL mc ms : Nat} {y : MethodName} {bytes : ByteArray} {ret : Option FieldType} {hh : List (Nat × Nat × Nat × Nat)} {Ts ws ws' : List Cond} {rm : Room} (n : Nat) (ht : ∀ w ∈ Ts, w.before args s = true) (hT : GoodIn Ts (wsV own index C y ws)) (hw : ws = Cond.codeWith y bytes maxL ret hh :: ws') (hrc : rm.cells = mc) (hrs : rm.slots = ms)
    (hd : y.cls = C ∧ y.cls ≠ "java/lang/invoke/MethodHandle" ∧ y.cls ≠ "java/lang/invoke/VarHandle" ∧ (parseMethodDescriptor y.desc).map (fun d => d.parameters.length) = some n) (hR : rm.frames + 1 ≤ R.frames ∧ 8 + (maxL + 11) + rm.locals ≤ R.locals) :
    vx_CVW R s args own C index y bytes maxL ret hh ws rm mc ms n := by
  obtain ⟨hC, hd⟩ := hd
  subst hC
  have ok : ∀ w ∈ wsV own index y.cls y ws, w.before args s = true := fun w h => ht w (hT w h).1
  have hG : GoodIn Ts ws := fun w h => hT w (by unfold wsV; exact List.mem_append_right _ h)
  have hc : Cond.codeWith y bytes maxL ret hh ∈ ws := by rw [hw]; exact List.mem_cons_self
  refine ⟨⟨hrc, hrs, hR.1, hR.2, pay_in ht hG, hc⟩, ht _ (hG _ hc).1, ok _ (by simp [wsV]), ⟨hd.1, hd.2.1⟩, fun sig h => ?_, ok _ (by simp [wsV]), ok _ (by simp [wsV]), ok _ (by simp [wsV])⟩
  have h2 := hd.2.2
  rw [h] at h2
  exact (Option.some.inj h2).symm
theorem vx_runVW {y : MethodName} {bytes cc : ByteArray} {maxL nL mc ms n index : Nat} {ret : Option FieldType} {hh : List (Nat × Nat × Nat × Nat)} {ws : List Cond} {rm : Room} {Pc : Array Value → State → Prop} {Qc : Array Value → State → Outcome → State → Prop} {free : Addr → Prop} {Ts : List Cond} {own C : String} {b : Addr} {As rest : List Value} {g : JFrame}
    (S : CallFix p m c cc nL s args Ts own) (hM : Met l y ws rm Pc Qc mc ms free) (cw : vx_CVW R s args own C index y bytes maxL ret hh ws rm mc ms n) (hp : PreV s H C b Pc As)
    (hg : g.method = m) (hn : As.length = n) (hsize : g.locals.size = nL) (hstack : g.stack = As.reverse ++ .ref b :: rest) (hW : 2 * g.monitorRoom + (rest.map fun v => v.category).sum ≤ 8) (hdg : decode cc g.pc = .ok (.invokevirtual index, 3)) (hf : cells + mc ≤ R.cells ∧ slots + ms ≤ R.slots) :
    va_Run p l e R s m args below meth c H locs cells slots mc ms g rest (Qc (Value.ref b :: As).toArray) free := by
  obtain ⟨⟨hrc, hrs, hfr, hlo, hws, hcw⟩, hcode, hini, hy, hlen, hl, hin, hse⟩ := cw
  have hK : Back l R p e below s args y 3 8 (PreOf R mc ms Pc) (PostOf Qc mc ms free) := va_backW (hh := hh) (bytes := bytes) (maxL := maxL) (ret := ret) hM hp.1 hrc hrs hfr hlo hws hcw (fun a' U hW => word_at hW (Or.inl (by first | rfl | simp [Cond.onTables, Cond.keeps, Cond.steady])) hini)
  obtain ⟨hx, hb, hml, ho, -⟩ := S
  obtain ⟨-, ⟨cellB, hcB, hoB, hclB⟩, hPc⟩ := hp
  intro T hT X
  obtain ⟨v, vm₁, ⟨U', l2, c2, s2⟩, hW₁, X', ⟨g', mk, t, L, e1, e2, hq, h1, hL, h2, h3⟩, st⟩ := vx_callVW X hx (C := C) (hh := hh) (bytes := bytes) (maxL := maxL) (ret := ret) ho hl hin hse hcode hy hK (by rw [hT]; exact hcB) hoB hclB hg (hsize.trans hml.symm) (argsL := As) (rest := rest) (fun sig h => hn.trans (hlen sig h)) hstack hW (by rw [hb]; exact hdg)
    (fun vm₁ hW₁ => ⟨hf.1, hf.2, hPc (T.setVm vm₁) hT hW₁⟩)
  dsimp only [Pt.U, Pt.locs, Pt.cells, Pt.slots] at X' e1 e2 h1 h2 h3 st
  subst h1; subst h2; subst h3
  exact ⟨v, (T.setVm vm₁).calling g' mk (Value.ref b :: As).toArray, t, U', L, hT, X', hL, e1, e2, hq, st⟩
section
variable {y : MethodName} {bytes cc : ByteArray} {maxL nL mc ms n index : Nat} {ret : Option FieldType} {ws : List Cond} {rm : Room} {Pc : Array Value → State → Prop} {Qc : Array Value → State → Outcome → State → Prop} {XC : String → State → State → Prop} {free : Addr → Prop} {Ts : List Cond} {own C : String} {b : Addr} {As rest : List Value} {g : JFrame}
theorem vx_runVX {hh : List (Nat × Nat × Nat × Nat)} (S : CallFix p m c cc nL s args Ts own) (hM : vx_Met l y ws rm Pc Qc XC mc ms free) (cw : vx_CVW R s args own C index y bytes maxL ret hh ws rm mc ms n) (hp : PreV s H C b Pc As)
    (hg : g.method = m) (hn : As.length = n) (hsize : g.locals.size = nL) (hstack : g.stack = As.reverse ++ .ref b :: rest) (hW : 2 * g.monitorRoom + (rest.map fun v => v.category).sum ≤ 8) (hdg : decode cc g.pc = .ok (.invokevirtual index, 3)) (hf : cells + mc ≤ R.cells ∧ slots + ms ≤ R.slots) :
    vx_Run p l e R s m args below meth c H locs cells slots mc ms g rest (Qc (Value.ref b :: As).toArray) XC free := by
  obtain ⟨⟨hrc, hrs, hfr, hlo, hws, hcw⟩, hcode, hini, hy, hlen, hl, hin, hse⟩ := cw
  have hK : vx_Back l R p e below s args y 3 8 (PreOf R mc ms Pc) (PostOf Qc mc ms free) (vx_Post XC mc ms free) := vx_backW (hh := hh) (bytes := bytes) (maxL := maxL) (ret := ret) hM hp.1 hrc hrs hfr hlo hws hcw (fun a' U hW => word_at hW (Or.inl (by first | rfl | simp [Cond.onTables, Cond.keeps, Cond.steady])) hini)
  obtain ⟨hx, hb, hml, ho, -⟩ := S
  obtain ⟨-, ⟨cellB, hcB, hoB, hclB⟩, hPc⟩ := hp
  intro T hT X
  rcases vx_callVX X hx (C := C) (hh := hh) (bytes := bytes) (maxL := maxL) (ret := ret) ho hl hin hse hcode hy hK (by rw [hT]; exact hcB) hoB hclB hg (hsize.trans hml.symm) (argsL := As) (rest := rest) (fun sig h => hn.trans (hlen sig h)) hstack hW (by rw [hb]; exact hdg)
    (fun vm₁ hW₁ => ⟨hf.1, hf.2, hPc (T.setVm vm₁) hT hW₁⟩) with ⟨v, vm₁, ⟨U', l2, c2, s2⟩, hW₁, X', ⟨g', mk, t, L, e1, e2, hq, h1, hL, h2, h3⟩, st⟩ | ⟨q, vm₁, ⟨U', l2, c2, s2⟩, hW₁, X', ⟨g', mk, t, L, E, ce, e1, e2, hq, hce, hcv, hcl, h1, hL, h2, h3⟩, st⟩
  · dsimp only [Pt.U, Pt.locs, Pt.cells, Pt.slots] at X' e1 e2 h1 h2 h3 st
    subst h1; subst h2; subst h3
    exact Or.inl ⟨v, (T.setVm vm₁).calling g' mk (Value.ref b :: As).toArray, t, U', L, hT, X', hL, e1, e2, hq, st⟩
  · dsimp only [Pt.U, Pt.locs, Pt.cells, Pt.slots] at X' e1 e2 h1 h2 h3 st hcl
    subst h1; subst h2; subst h3
    exact Or.inr ⟨q, (T.setVm vm₁).calling g' mk (Value.ref b :: As).toArray, t, U', L, E, ce, hT, X', hL, e1, e2, hq, hce, hcv, vx_cls hW₁ hcl, st⟩
theorem vx_runSX {hh : List (Nat × Nat × Nat × Nat)} (S : CallFix p m c cc nL s args Ts own) (hM : vx_Met l y ws rm Pc Qc XC mc ms free) (cw : vx_CSW R s args own index y bytes maxL ret hh ws rm mc ms n) (hp : PreS s H Pc As)
    (hg : g.method = m) (hn : As.length = n) (hsize : g.locals.size = nL) (hstack : g.stack = As.reverse ++ rest) (hW : 2 * g.monitorRoom + (rest.map fun v => v.category).sum ≤ 8) (hdg : decode cc g.pc = .ok (.invokestatic index, 3)) (hf : cells + mc ≤ R.cells ∧ slots + ms ≤ R.slots) :
    vx_Run p l e R s m args below meth c H locs cells slots mc ms g rest (Qc As.toArray) XC free := by
  obtain ⟨⟨hrc, hrs, hfr, hlo, hws, hcw⟩, hcode, hini, hy, hlen, hl, hstt⟩ := cw
  have hK : vx_Back l R p e below s args y 3 8 (PreOf R mc ms Pc) (PostOf Qc mc ms free) (vx_Post XC mc ms free) := vx_backW (hh := hh) (bytes := bytes) (maxL := maxL) (ret := ret) hM hp.1 hrc hrs hfr hlo hws hcw (fun a' U hW => word_at hW (Or.inl (by first | rfl | simp [Cond.onTables, Cond.keeps, Cond.steady])) hini)
  obtain ⟨hx, hb, hml, ho, -⟩ := S
  intro T hT X
  rcases vx_callSX X hx (hh := hh) (bytes := bytes) (maxL := maxL) (ret := ret) ho hl hstt hini hcode hy hK hg (hsize.trans hml.symm) (argsL := As) (rest := rest) (fun sig h => hn.trans (hlen sig h)) hstack hW (by rw [hb]; exact hdg)
    (fun vm₁ hW₁ => ⟨hf.1, hf.2, hp.2 (T.setVm vm₁) hT hW₁⟩) with ⟨v, vm₁, ⟨U', l2, c2, s2⟩, hW₁, X', ⟨g', mk, t, L, e1, e2, hq, h1, hL, h2, h3⟩, st⟩ | ⟨q, vm₁, ⟨U', l2, c2, s2⟩, hW₁, X', ⟨g', mk, t, L, E, ce, e1, e2, hq, hce, hcv, hcl, h1, hL, h2, h3⟩, st⟩
  · dsimp only [Pt.U, Pt.locs, Pt.cells, Pt.slots] at X' e1 e2 h1 h2 h3 st
    subst h1; subst h2; subst h3
    exact Or.inl ⟨v, (T.setVm vm₁).calling g' mk As.toArray, t, U', L, hT, X', hL, e1, e2, hq, st⟩
  · dsimp only [Pt.U, Pt.locs, Pt.cells, Pt.slots] at X' e1 e2 h1 h2 h3 st hcl
    subst h1; subst h2; subst h3
    exact Or.inr ⟨q, (T.setVm vm₁).calling g' mk As.toArray, t, U', L, E, ce, hT, X', hL, e1, e2, hq, hce, hcv, vx_cls hW₁ hcl, st⟩
end
end VXH
theorem vx_ofWH {l : Launch} {y : MethodName} {ws ws' : List Cond} {rm : Room} {Pc : Array Value → State → Prop} {Qc : Array Value → State → Outcome → State → Prop} {XC : String → State → State → Prop} {mc ms : Nat} {free : Addr → Prop} {cc : ByteArray} {maxL : Nat} {ret : Option FieldType} {hh : List (Nat × Nat × Nat × Nat)}
    (hy : plainName y.cls = true) (hw : ws = Cond.codeWith y cc maxL ret hh :: ws')
    (body : ∀ p e s m args below meth c s₁, BodyLoose p l y (headSpec ws rm) cc maxL ret e s m args below meth c s₁ → c.maxLocals = maxL → Pc args s →
      W p l e (headSpec ws rm).room s m args below meth c s.heap [] 0 0 (vx_MQ below Qc XC args s mc ms free) (entryFrame m args maxL)) : vx_Met l y ws rm Pc Qc XC mc ms free := by
  refine MetFree.of_bodyS (code := cc) (maxLocals := maxL) (ret := ret) hy ?_ ?_
  · intro args s m h hn
    obtain ⟨m9, meth, c, hn9, h1, h2, h3, h4, -, h5, h6, -⟩ := Cond.codeWith_spec (atoms_spec (ws := ws) h _ (by rw [hw]; exact List.mem_cons_self))
    cases hn.symm.trans hn9
    exact ⟨meth, c, h1, h2, h3, h4, h5, h6⟩
  · intro p e s m args below meth c s₁ B hml hP _
    have hh0 : s₁.heap = s.heap := by rw [B.state]; rfl
    obtain ⟨t, a1, o, b1, b2, b3⟩ := body p e s m args below meth c s₁ B hml hP s₁ hh0 (Stand.of_body B)
    exact ⟨t, o, a1, b1, b2, b3⟩
/-! ===== END ===== -/

/-! ===== BEGIN printed: names, fields, word lists, decode rows ===== -/
def RX0 : String := "BackwardYears$Built"
def TX0 : u_T := fun k => match k with
  | 0 => ("BackwardYears$Deed", "number", "I", true)
  | 1 => ("BackwardYears$Deed", "needs", "I", true)
  | 2 => ("BackwardYears$Deed", "makes", "I", true)
  | 3 => ("BackwardYears$Deed", "pays", "I", true)
  | 4 => ("BackwardYears$Deed", "figure", "I", true)
  | 5 => ("BackwardYears$Deed", "kind", "I", false)
  | 6 => ("BackwardYears$Deed", "cost", "I", false)
  | 7 => ("BackwardYears$Deed", "back", "I", false)
  | 8 => ("BackwardYears$Deed", "sets", "I", false)
  | 9 => ("BackwardYears$Deed", "clears", "I", false)
  | 10 => ("BackwardYears$Deed", "keeps", "Z", false)
  | 11 => ("BackwardYears$Deed", "care", "I", false)
  | 12 => ("BackwardYears$Deed", "failure", "I", false)
  | _ => ("BackwardYears$Deed", "canFail", "Z", false)
def tyX0 : Nat → FieldType := fun k => match k with
  | 0 => .int
  | 1 => .int
  | 2 => .int
  | 3 => .int
  | 4 => .int
  | 5 => .int
  | 6 => .int
  | 7 => .int
  | 8 => .int
  | 9 => .int
  | 10 => .boolean
  | 11 => .int
  | 12 => .int
  | _ => .boolean
abbrev wsX00 : List Cond := u_ws RX0 TX0 14
theorem nmX0 : ∀ a, a < 14 → ∀ b, b < 14 → a ≠ b → (TX0 a).2.1 ≠ (TX0 b).2.1 := by decide +kernel
theorem tyX0_ok : ∀ k, k < 14 → parseFieldDescriptor (TX0 k).2.2.1 = some (tyX0 k) := by decide +kernel
abbrev cX0_init : ByteArray := prog_2_method_1_code
def yX0_init : MethodName := ⟨RX0, "<init>", "(IIIII)V"⟩
def RX1 : String := "BackwardYears$Deed"
def TX1 : u_T := fun k => match k with
  | 0 => ("BackwardYears$Deed", "number", "I", true)
  | 1 => ("BackwardYears$Deed", "needs", "I", true)
  | 2 => ("BackwardYears$Deed", "makes", "I", true)
  | 3 => ("BackwardYears$Deed", "pays", "I", true)
  | 4 => ("BackwardYears$Deed", "figure", "I", true)
  | 5 => ("BackwardYears$Deed", "kind", "I", false)
  | 6 => ("BackwardYears$Deed", "cost", "I", false)
  | 7 => ("BackwardYears$Deed", "back", "I", false)
  | 8 => ("BackwardYears$Deed", "sets", "I", false)
  | 9 => ("BackwardYears$Deed", "clears", "I", false)
  | 10 => ("BackwardYears$Deed", "keeps", "Z", false)
  | 11 => ("BackwardYears$Deed", "care", "I", false)
  | 12 => ("BackwardYears$Deed", "failure", "I", false)
  | _ => ("BackwardYears$Deed", "canFail", "Z", false)
def tyX1 : Nat → FieldType := fun k => match k with
  | 0 => .int
  | 1 => .int
  | 2 => .int
  | 3 => .int
  | 4 => .int
  | 5 => .int
  | 6 => .int
  | 7 => .int
  | 8 => .int
  | 9 => .int
  | 10 => .boolean
  | 11 => .int
  | 12 => .int
  | _ => .boolean
abbrev wsX10 : List Cond := u_ws RX1 TX1 14
theorem nmX1 : ∀ a, a < 14 → ∀ b, b < 14 → a ≠ b → (TX1 a).2.1 ≠ (TX1 b).2.1 := by decide +kernel
theorem tyX1_ok : ∀ k, k < 14 → parseFieldDescriptor (TX1 k).2.2.1 = some (tyX1 k) := by decide +kernel
abbrev cX1_init : ByteArray := prog_3_method_1_code
def yX1_init : MethodName := ⟨RX1, "<init>", "(IIIII)V"⟩
abbrev cX1_hasGround : ByteArray := prog_3_method_2_code
def yX1_hasGround : MethodName := ⟨RX1, "hasGround", "(I)Z"⟩
abbrev cX1_mayBeDone : ByteArray := prog_3_method_3_code
def yX1_mayBeDone : MethodName := ⟨RX1, "mayBeDone", "(II)Z"⟩
abbrev cX1_marksBehind : ByteArray := prog_3_method_4_code
def yX1_marksBehind : MethodName := ⟨RX1, "marksBehind", "(I)I"⟩
abbrev cX1_fail : ByteArray := prog_3_method_5_code
def yX1_fail : MethodName := ⟨RX1, "fail", "()V"⟩
def RX2 : String := "BackwardYears$Lent"
def TX2 : u_T := fun k => match k with
  | 0 => ("BackwardYears$Deed", "number", "I", true)
  | 1 => ("BackwardYears$Deed", "needs", "I", true)
  | 2 => ("BackwardYears$Deed", "makes", "I", true)
  | 3 => ("BackwardYears$Deed", "pays", "I", true)
  | 4 => ("BackwardYears$Deed", "figure", "I", true)
  | 5 => ("BackwardYears$Deed", "kind", "I", false)
  | 6 => ("BackwardYears$Deed", "cost", "I", false)
  | 7 => ("BackwardYears$Deed", "back", "I", false)
  | 8 => ("BackwardYears$Deed", "sets", "I", false)
  | 9 => ("BackwardYears$Deed", "clears", "I", false)
  | 10 => ("BackwardYears$Deed", "keeps", "Z", false)
  | 11 => ("BackwardYears$Deed", "care", "I", false)
  | 12 => ("BackwardYears$Deed", "failure", "I", false)
  | _ => ("BackwardYears$Deed", "canFail", "Z", false)
def tyX2 : Nat → FieldType := fun k => match k with
  | 0 => .int
  | 1 => .int
  | 2 => .int
  | 3 => .int
  | 4 => .int
  | 5 => .int
  | 6 => .int
  | 7 => .int
  | 8 => .int
  | 9 => .int
  | 10 => .boolean
  | 11 => .int
  | 12 => .int
  | _ => .boolean
abbrev wsX20 : List Cond := u_ws RX2 TX2 14
theorem nmX2 : ∀ a, a < 14 → ∀ b, b < 14 → a ≠ b → (TX2 a).2.1 ≠ (TX2 b).2.1 := by decide +kernel
theorem tyX2_ok : ∀ k, k < 14 → parseFieldDescriptor (TX2 k).2.2.1 = some (tyX2 k) := by decide +kernel
abbrev cX2_init : ByteArray := prog_4_method_1_code
def yX2_init : MethodName := ⟨RX2, "<init>", "(IIIII)V"⟩
def RX3 : String := "BackwardYears$Pulled"
def TX3 : u_T := fun k => match k with
  | 0 => ("BackwardYears$Deed", "number", "I", true)
  | 1 => ("BackwardYears$Deed", "needs", "I", true)
  | 2 => ("BackwardYears$Deed", "makes", "I", true)
  | 3 => ("BackwardYears$Deed", "pays", "I", true)
  | 4 => ("BackwardYears$Deed", "figure", "I", true)
  | 5 => ("BackwardYears$Deed", "kind", "I", false)
  | 6 => ("BackwardYears$Deed", "cost", "I", false)
  | 7 => ("BackwardYears$Deed", "back", "I", false)
  | 8 => ("BackwardYears$Deed", "sets", "I", false)
  | 9 => ("BackwardYears$Deed", "clears", "I", false)
  | 10 => ("BackwardYears$Deed", "keeps", "Z", false)
  | 11 => ("BackwardYears$Deed", "care", "I", false)
  | 12 => ("BackwardYears$Deed", "failure", "I", false)
  | _ => ("BackwardYears$Deed", "canFail", "Z", false)
def tyX3 : Nat → FieldType := fun k => match k with
  | 0 => .int
  | 1 => .int
  | 2 => .int
  | 3 => .int
  | 4 => .int
  | 5 => .int
  | 6 => .int
  | 7 => .int
  | 8 => .int
  | 9 => .int
  | 10 => .boolean
  | 11 => .int
  | 12 => .int
  | _ => .boolean
abbrev wsX30 : List Cond := u_ws RX3 TX3 14
theorem nmX3 : ∀ a, a < 14 → ∀ b, b < 14 → a ≠ b → (TX3 a).2.1 ≠ (TX3 b).2.1 := by decide +kernel
theorem tyX3_ok : ∀ k, k < 14 → parseFieldDescriptor (TX3 k).2.2.1 = some (tyX3 k) := by decide +kernel
abbrev cX3_init : ByteArray := prog_5_method_1_code
def yX3_init : MethodName := ⟨RX3, "<init>", "(IIIII)V"⟩
def RX4 : String := "BackwardYears$Raised"
def TX4 : u_T := fun k => match k with
  | 0 => ("BackwardYears$Deed", "number", "I", true)
  | 1 => ("BackwardYears$Deed", "needs", "I", true)
  | 2 => ("BackwardYears$Deed", "makes", "I", true)
  | 3 => ("BackwardYears$Deed", "pays", "I", true)
  | 4 => ("BackwardYears$Deed", "figure", "I", true)
  | 5 => ("BackwardYears$Deed", "kind", "I", false)
  | 6 => ("BackwardYears$Deed", "cost", "I", false)
  | 7 => ("BackwardYears$Deed", "back", "I", false)
  | 8 => ("BackwardYears$Deed", "sets", "I", false)
  | 9 => ("BackwardYears$Deed", "clears", "I", false)
  | 10 => ("BackwardYears$Deed", "keeps", "Z", false)
  | 11 => ("BackwardYears$Deed", "care", "I", false)
  | 12 => ("BackwardYears$Deed", "failure", "I", false)
  | _ => ("BackwardYears$Deed", "canFail", "Z", false)
def tyX4 : Nat → FieldType := fun k => match k with
  | 0 => .int
  | 1 => .int
  | 2 => .int
  | 3 => .int
  | 4 => .int
  | 5 => .int
  | 6 => .int
  | 7 => .int
  | 8 => .int
  | 9 => .int
  | 10 => .boolean
  | 11 => .int
  | 12 => .int
  | _ => .boolean
abbrev wsX40 : List Cond := u_ws RX4 TX4 14
theorem nmX4 : ∀ a, a < 14 → ∀ b, b < 14 → a ≠ b → (TX4 a).2.1 ≠ (TX4 b).2.1 := by decide +kernel
theorem tyX4_ok : ∀ k, k < 14 → parseFieldDescriptor (TX4 k).2.2.1 = some (tyX4 k) := by decide +kernel
abbrev cX4_init : ByteArray := prog_6_method_1_code
def yX4_init : MethodName := ⟨RX4, "<init>", "(IIIII)V"⟩
def RX5 : String := "BackwardYears$Said"
def TX5 : u_T := fun k => match k with
  | 0 => ("BackwardYears$Deed", "number", "I", true)
  | 1 => ("BackwardYears$Deed", "needs", "I", true)
  | 2 => ("BackwardYears$Deed", "makes", "I", true)
  | 3 => ("BackwardYears$Deed", "pays", "I", true)
  | 4 => ("BackwardYears$Deed", "figure", "I", true)
  | 5 => ("BackwardYears$Deed", "kind", "I", false)
  | 6 => ("BackwardYears$Deed", "cost", "I", false)
  | 7 => ("BackwardYears$Deed", "back", "I", false)
  | 8 => ("BackwardYears$Deed", "sets", "I", false)
  | 9 => ("BackwardYears$Deed", "clears", "I", false)
  | 10 => ("BackwardYears$Deed", "keeps", "Z", false)
  | 11 => ("BackwardYears$Deed", "care", "I", false)
  | 12 => ("BackwardYears$Deed", "failure", "I", false)
  | _ => ("BackwardYears$Deed", "canFail", "Z", false)
def tyX5 : Nat → FieldType := fun k => match k with
  | 0 => .int
  | 1 => .int
  | 2 => .int
  | 3 => .int
  | 4 => .int
  | 5 => .int
  | 6 => .int
  | 7 => .int
  | 8 => .int
  | 9 => .int
  | 10 => .boolean
  | 11 => .int
  | 12 => .int
  | _ => .boolean
abbrev wsX50 : List Cond := u_ws RX5 TX5 14
theorem nmX5 : ∀ a, a < 14 → ∀ b, b < 14 → a ≠ b → (TX5 a).2.1 ≠ (TX5 b).2.1 := by decide +kernel
theorem tyX5_ok : ∀ k, k < 14 → parseFieldDescriptor (TX5 k).2.2.1 = some (tyX5 k) := by decide +kernel
abbrev cX5_init : ByteArray := prog_7_method_1_code
def yX5_init : MethodName := ⟨RX5, "<init>", "(IIIII)V"⟩
def RX6 : String := "BackwardYears$Shelf"
def TX6 : u_T := fun k => match k with
  | 0 => ("BackwardYears$Shelf", "elements", "[I", true)
  | 1 => ("BackwardYears$Shelf", "deed", "LBackwardYears$Deed;", false)
  | 2 => ("BackwardYears$Shelf", "sort", "I", false)
  | _ => ("BackwardYears$Shelf", "size", "I", false)
def tyX6 : Nat → FieldType := fun k => match k with
  | 0 => .array .int
  | 1 => .object "BackwardYears$Deed"
  | 2 => .int
  | _ => .int
abbrev wsX60 : List Cond := u_ws RX6 TX6 4
theorem nmX6 : ∀ a, a < 4 → ∀ b, b < 4 → a ≠ b → (TX6 a).2.1 ≠ (TX6 b).2.1 := by decide +kernel
theorem tyX6_ok : ∀ k, k < 4 → parseFieldDescriptor (TX6 k).2.2.1 = some (tyX6 k) := by decide +kernel
abbrev cX6_init : ByteArray := prog_8_method_1_code
def yX6_init : MethodName := ⟨RX6, "<init>", "()V"⟩
abbrev cX6_hold : ByteArray := prog_8_method_2_code
def yX6_hold : MethodName := ⟨RX6, "hold", "(LBackwardYears$Deed;)V"⟩
abbrev cX6_holdRow : ByteArray := prog_8_method_3_code
def yX6_holdRow : MethodName := ⟨RX6, "holdRow", "(II)V"⟩
abbrev cX6_isEmpty : ByteArray := prog_8_method_4_code
def yX6_isEmpty : MethodName := ⟨RX6, "isEmpty", "()Z"⟩
abbrev cX6_rowRefusal : ByteArray := prog_8_method_5_code
def yX6_rowRefusal : MethodName := ⟨RX6, "rowRefusal", "()I"⟩
abbrev cX6_bytesRefusal : ByteArray := prog_8_method_6_code
def yX6_bytesRefusal : MethodName := ⟨RX6, "bytesRefusal", "()I"⟩
abbrev cX6_deedRefusal : ByteArray := prog_8_method_7_code
def yX6_deedRefusal : MethodName := ⟨RX6, "deedRefusal", "()I"⟩
abbrev cX6_hasPlace : ByteArray := prog_8_method_8_code
def yX6_hasPlace : MethodName := ⟨RX6, "hasPlace", "(I)Z"⟩
abbrev cX6_hasPlaces : ByteArray := prog_8_method_9_code
def yX6_hasPlaces : MethodName := ⟨RX6, "hasPlaces", "(II)Z"⟩
abbrev cX6_read : ByteArray := prog_8_method_10_code
def yX6_read : MethodName := ⟨RX6, "read", "(I)I"⟩
abbrev cX6_write : ByteArray := prog_8_method_11_code
def yX6_write : MethodName := ⟨RX6, "write", "(II)Z"⟩
abbrev cX6_leastNumber : ByteArray := prog_8_method_12_code
def yX6_leastNumber : MethodName := ⟨RX6, "leastNumber", "()I"⟩
def RX7 : String := "BackwardYears$Spent"
def TX7 : u_T := fun k => match k with
  | 0 => ("BackwardYears$Deed", "number", "I", true)
  | 1 => ("BackwardYears$Deed", "needs", "I", true)
  | 2 => ("BackwardYears$Deed", "makes", "I", true)
  | 3 => ("BackwardYears$Deed", "pays", "I", true)
  | 4 => ("BackwardYears$Deed", "figure", "I", true)
  | 5 => ("BackwardYears$Deed", "kind", "I", false)
  | 6 => ("BackwardYears$Deed", "cost", "I", false)
  | 7 => ("BackwardYears$Deed", "back", "I", false)
  | 8 => ("BackwardYears$Deed", "sets", "I", false)
  | 9 => ("BackwardYears$Deed", "clears", "I", false)
  | 10 => ("BackwardYears$Deed", "keeps", "Z", false)
  | 11 => ("BackwardYears$Deed", "care", "I", false)
  | 12 => ("BackwardYears$Deed", "failure", "I", false)
  | _ => ("BackwardYears$Deed", "canFail", "Z", false)
def tyX7 : Nat → FieldType := fun k => match k with
  | 0 => .int
  | 1 => .int
  | 2 => .int
  | 3 => .int
  | 4 => .int
  | 5 => .int
  | 6 => .int
  | 7 => .int
  | 8 => .int
  | 9 => .int
  | 10 => .boolean
  | 11 => .int
  | 12 => .int
  | _ => .boolean
abbrev wsX70 : List Cond := u_ws RX7 TX7 14
theorem nmX7 : ∀ a, a < 14 → ∀ b, b < 14 → a ≠ b → (TX7 a).2.1 ≠ (TX7 b).2.1 := by decide +kernel
theorem tyX7_ok : ∀ k, k < 14 → parseFieldDescriptor (TX7 k).2.2.1 = some (tyX7 k) := by decide +kernel
abbrev cX7_init : ByteArray := prog_9_method_1_code
def yX7_init : MethodName := ⟨RX7, "<init>", "(IIIII)V"⟩
def RX8 : String := "BackwardYears$Sworn"
def TX8 : u_T := fun k => match k with
  | 0 => ("BackwardYears$Deed", "number", "I", true)
  | 1 => ("BackwardYears$Deed", "needs", "I", true)
  | 2 => ("BackwardYears$Deed", "makes", "I", true)
  | 3 => ("BackwardYears$Deed", "pays", "I", true)
  | 4 => ("BackwardYears$Deed", "figure", "I", true)
  | 5 => ("BackwardYears$Deed", "kind", "I", false)
  | 6 => ("BackwardYears$Deed", "cost", "I", false)
  | 7 => ("BackwardYears$Deed", "back", "I", false)
  | 8 => ("BackwardYears$Deed", "sets", "I", false)
  | 9 => ("BackwardYears$Deed", "clears", "I", false)
  | 10 => ("BackwardYears$Deed", "keeps", "Z", false)
  | 11 => ("BackwardYears$Deed", "care", "I", false)
  | 12 => ("BackwardYears$Deed", "failure", "I", false)
  | _ => ("BackwardYears$Deed", "canFail", "Z", false)
def tyX8 : Nat → FieldType := fun k => match k with
  | 0 => .int
  | 1 => .int
  | 2 => .int
  | 3 => .int
  | 4 => .int
  | 5 => .int
  | 6 => .int
  | 7 => .int
  | 8 => .int
  | 9 => .int
  | 10 => .boolean
  | 11 => .int
  | 12 => .int
  | _ => .boolean
abbrev wsX80 : List Cond := u_ws RX8 TX8 14
theorem nmX8 : ∀ a, a < 14 → ∀ b, b < 14 → a ≠ b → (TX8 a).2.1 ≠ (TX8 b).2.1 := by decide +kernel
theorem tyX8_ok : ∀ k, k < 14 → parseFieldDescriptor (TX8 k).2.2.1 = some (tyX8 k) := by decide +kernel
abbrev cX8_init : ByteArray := prog_10_method_1_code
def yX8_init : MethodName := ⟨RX8, "<init>", "(IIIII)V"⟩
def RX9 : String := "BackwardYears$Town"
def TX9 : u_T := fun k => match k with
  | 0 => ("BackwardYears$Town", "deeds", "[LBackwardYears$Deed;", true)
  | 1 => ("BackwardYears$Town", "deedCount", "I", false)
  | 2 => ("BackwardYears$Town", "marks", "I", false)
  | 3 => ("BackwardYears$Town", "coins", "I", false)
  | 4 => ("BackwardYears$Town", "law", "I", false)
  | 5 => ("BackwardYears$Town", "nail", "I", false)
  | 6 => ("BackwardYears$Town", "rise", "I", false)
  | _ => ("BackwardYears$Town", "year", "I", false)
def tyX9 : Nat → FieldType := fun k => match k with
  | 0 => .array (.object "BackwardYears$Deed")
  | 1 => .int
  | 2 => .int
  | 3 => .int
  | 4 => .int
  | 5 => .int
  | 6 => .int
  | _ => .int
abbrev wsX90 : List Cond := u_ws RX9 TX9 8
theorem nmX9 : ∀ a, a < 8 → ∀ b, b < 8 → a ≠ b → (TX9 a).2.1 ≠ (TX9 b).2.1 := by decide +kernel
theorem tyX9_ok : ∀ k, k < 8 → parseFieldDescriptor (TX9 k).2.2.1 = some (tyX9 k) := by decide +kernel
abbrev cX9_init : ByteArray := prog_11_method_1_code
def yX9_init : MethodName := ⟨RX9, "<init>", "()V"⟩
abbrev cX9_become : ByteArray := prog_11_method_2_code
def yX9_become : MethodName := ⟨RX9, "become", "(LBackwardYears$Town;)V"⟩
abbrev cX9_deedAt : ByteArray := prog_11_method_3_code
def yX9_deedAt : MethodName := ⟨RX9, "deedAt", "(I)LBackwardYears$Deed;"⟩
abbrev cX9_nailCost : ByteArray := prog_11_method_4_code
def yX9_nailCost : MethodName := ⟨RX9, "nailCost", "(I)I"⟩
abbrev cX9_changeLaw : ByteArray := prog_11_method_5_code
def yX9_changeLaw : MethodName := ⟨RX9, "changeLaw", "(I)I"⟩
abbrev cX9_changeNail : ByteArray := prog_11_method_6_code
def yX9_changeNail : MethodName := ⟨RX9, "changeNail", "(I)I"⟩
abbrev cX9_changeCoins : ByteArray := prog_11_method_7_code
def yX9_changeCoins : MethodName := ⟨RX9, "changeCoins", "(I)I"⟩
abbrev cX9_read : ByteArray := prog_11_method_8_code
def yX9_read : MethodName := ⟨RX9, "read", "(LBackwardYears$Shelf;)I"⟩
abbrev cX9_wrongAt : ByteArray := prog_11_method_9_code
def yX9_wrongAt : MethodName := ⟨RX9, "wrongAt", "(I)I"⟩
abbrev cX9_faultAt : ByteArray := prog_11_method_10_code
def yX9_faultAt : MethodName := ⟨RX9, "faultAt", "(I)I"⟩
abbrev cX9_behindStatement : ByteArray := prog_11_method_11_code
def yX9_behindStatement : MethodName := ⟨RX9, "behindStatement", "(LBackwardYears$Shelf;I)I"⟩
abbrev cX9_behindDeed : ByteArray := prog_11_method_12_code
def yX9_behindDeed : MethodName := ⟨RX9, "behindDeed", "(LBackwardYears$Shelf;I)I"⟩
abbrev cX9_behindNail : ByteArray := prog_11_method_13_code
def yX9_behindNail : MethodName := ⟨RX9, "behindNail", "(LBackwardYears$Shelf;I)I"⟩
abbrev cX9_behindSign : ByteArray := prog_11_method_14_code
def yX9_behindSign : MethodName := ⟨RX9, "behindSign", "(LBackwardYears$Shelf;II)I"⟩
abbrev cX9_behindDigit : ByteArray := prog_11_method_15_code
def yX9_behindDigit : MethodName := ⟨RX9, "behindDigit", "(LBackwardYears$Shelf;I)I"⟩
abbrev cX9_behindLetter : ByteArray := prog_11_method_16_code
def yX9_behindLetter : MethodName := ⟨RX9, "behindLetter", "(LBackwardYears$Shelf;I)I"⟩
abbrev cX9_behindNeeds : ByteArray := prog_11_method_17_code
def yX9_behindNeeds : MethodName := ⟨RX9, "behindNeeds", "(LBackwardYears$Shelf;I)I"⟩
abbrev cX9_behindNumber : ByteArray := prog_11_method_18_code
def yX9_behindNumber : MethodName := ⟨RX9, "behindNumber", "(LBackwardYears$Shelf;II)I"⟩
abbrev cX9_isDigit : ByteArray := prog_11_method_19_code
def yX9_isDigit : MethodName := ⟨RX9, "isDigit", "(I)Z"⟩
abbrev cX9_isLetter : ByteArray := prog_11_method_20_code
def yX9_isLetter : MethodName := ⟨RX9, "isLetter", "(I)Z"⟩
abbrev cX9_take : ByteArray := prog_11_method_21_code
def yX9_take : MethodName := ⟨RX9, "take", "(LBackwardYears$Shelf;I)Z"⟩
abbrev cX9_takeMark : ByteArray := prog_11_method_22_code
def yX9_takeMark : MethodName := ⟨RX9, "takeMark", "(I)Z"⟩
abbrev cX9_takeNail : ByteArray := prog_11_method_23_code
def yX9_takeNail : MethodName := ⟨RX9, "takeNail", "(LBackwardYears$Shelf;I)Z"⟩
abbrev cX9_takeDeed : ByteArray := prog_11_method_24_code
def yX9_takeDeed : MethodName := ⟨RX9, "takeDeed", "(LBackwardYears$Deed;)Z"⟩
abbrev cX9_newDeed : ByteArray := prog_11_method_25_code
def yX9_newDeed : MethodName := ⟨RX9, "newDeed", "(LBackwardYears$Shelf;I)LBackwardYears$Deed;"⟩
abbrev cX9_number : ByteArray := prog_11_method_26_code
def yX9_number : MethodName := ⟨RX9, "number", "(LBackwardYears$Shelf;I)I"⟩
def RX10 : String := "BackwardYears$Years"
def TX10 : u_T := fun k => match k with
  | 0 => ("BackwardYears$Years", "deeds", "[LBackwardYears$Deed;", true)
  | 1 => ("BackwardYears$Years", "made", "[I", true)
  | 2 => ("BackwardYears$Years", "lost", "[I", true)
  | 3 => ("BackwardYears$Years", "town", "LBackwardYears$Town;", false)
  | 4 => ("BackwardYears$Years", "law", "I", false)
  | 5 => ("BackwardYears$Years", "size", "I", false)
  | 6 => ("BackwardYears$Years", "marks", "I", false)
  | 7 => ("BackwardYears$Years", "coins", "I", false)
  | 8 => ("BackwardYears$Years", "paid", "I", false)
  | 9 => ("BackwardYears$Years", "done", "I", false)
  | 10 => ("BackwardYears$Years", "undone", "I", false)
  | 11 => ("BackwardYears$Years", "nailed", "I", false)
  | 12 => ("BackwardYears$Years", "firm", "I", false)
  | _ => ("BackwardYears$Years", "fallen", "I", false)
def tyX10 : Nat → FieldType := fun k => match k with
  | 0 => .array (.object "BackwardYears$Deed")
  | 1 => .array .int
  | 2 => .array .int
  | 3 => .object "BackwardYears$Town"
  | 4 => .int
  | 5 => .int
  | 6 => .int
  | 7 => .int
  | 8 => .int
  | 9 => .int
  | 10 => .int
  | 11 => .int
  | 12 => .int
  | _ => .int
abbrev wsX100 : List Cond := u_ws RX10 TX10 14
theorem nmX10 : ∀ a, a < 14 → ∀ b, b < 14 → a ≠ b → (TX10 a).2.1 ≠ (TX10 b).2.1 := by decide +kernel
theorem tyX10_ok : ∀ k, k < 14 → parseFieldDescriptor (TX10 k).2.2.1 = some (tyX10 k) := by decide +kernel
abbrev cX10_init : ByteArray := prog_12_method_1_code
def yX10_init : MethodName := ⟨RX10, "<init>", "()V"⟩
abbrev cX10_open : ByteArray := prog_12_method_2_code
def yX10_open : MethodName := ⟨RX10, "open", "(LBackwardYears$Town;)V"⟩
abbrev cX10_add : ByteArray := prog_12_method_3_code
def yX10_add : MethodName := ⟨RX10, "add", "(LBackwardYears$Deed;)V"⟩
abbrev cX10_deedAt : ByteArray := prog_12_method_4_code
def yX10_deedAt : MethodName := ⟨RX10, "deedAt", "(I)LBackwardYears$Deed;"⟩
abbrev cX10_begin : ByteArray := prog_12_method_5_code
def yX10_begin : MethodName := ⟨RX10, "begin", "(II)V"⟩
abbrev cX10_play : ByteArray := prog_12_method_6_code
def yX10_play : MethodName := ⟨RX10, "play", "(I)V"⟩
abbrev cX10_evenYear : ByteArray := prog_12_method_7_code
def yX10_evenYear : MethodName := ⟨RX10, "evenYear", "(I)V"⟩
abbrev cX10_evenPlace : ByteArray := prog_12_method_8_code
def yX10_evenPlace : MethodName := ⟨RX10, "evenPlace", "(II)V"⟩
abbrev cX10_nailAt : ByteArray := prog_12_method_9_code
def yX10_nailAt : MethodName := ⟨RX10, "nailAt", "(I)V"⟩
abbrev cX10_oddYear : ByteArray := prog_12_method_10_code
def yX10_oddYear : MethodName := ⟨RX10, "oddYear", "()V"⟩
abbrev cX10_stays : ByteArray := prog_12_method_11_code
def yX10_stays : MethodName := ⟨RX10, "stays", "(I)Z"⟩
abbrev cX10_letFall : ByteArray := prog_12_method_12_code
def yX10_letFall : MethodName := ⟨RX10, "letFall", "()V"⟩
abbrev cX10_undo : ByteArray := prog_12_method_13_code
def yX10_undo : MethodName := ⟨RX10, "undo", "(I)V"⟩
abbrev cX10_standing : ByteArray := prog_12_method_14_code
def yX10_standing : MethodName := ⟨RX10, "standing", "()I"⟩
abbrev cX10_fate : ByteArray := prog_12_method_15_code
def yX10_fate : MethodName := ⟨RX10, "fate", "(I)I"⟩
abbrev cX10_leastNails : ByteArray := prog_12_method_16_code
def yX10_leastNails : MethodName := ⟨RX10, "leastNails", "(I)I"⟩
abbrev cX10_has : ByteArray := prog_12_method_17_code
def yX10_has : MethodName := ⟨RX10, "has", "(II)Z"⟩
def RX11 : String := "BackwardYears"
def TX11 : u_T := fun k => match k with
  | 0 => ("BackwardYears", "now", "LBackwardYears$Town;", true)
  | 1 => ("BackwardYears", "then", "LBackwardYears$Town;", true)
  | 2 => ("BackwardYears", "draft", "LBackwardYears$Town;", true)
  | 3 => ("BackwardYears", "years", "LBackwardYears$Years;", true)
  | 4 => ("BackwardYears", "shelves", "[LBackwardYears$Shelf;", true)
  | 5 => ("BackwardYears", "order", "[I", true)
  | 6 => ("BackwardYears", "moves", "[I", true)
  | 7 => ("BackwardYears", "ends", "[I", true)
  | 8 => ("BackwardYears", "moveCount", "I", false)
  | _ => ("BackwardYears", "imageTaken", "Z", false)
def tyX11 : Nat → FieldType := fun k => match k with
  | 0 => .object "BackwardYears$Town"
  | 1 => .object "BackwardYears$Town"
  | 2 => .object "BackwardYears$Town"
  | 3 => .object "BackwardYears$Years"
  | 4 => .array (.object "BackwardYears$Shelf")
  | 5 => .array .int
  | 6 => .array .int
  | 7 => .array .int
  | 8 => .int
  | _ => .boolean
abbrev wsX110 : List Cond := u_ws RX11 TX11 10
theorem nmX11 : ∀ a, a < 10 → ∀ b, b < 10 → a ≠ b → (TX11 a).2.1 ≠ (TX11 b).2.1 := by decide +kernel
theorem tyX11_ok : ∀ k, k < 10 → parseFieldDescriptor (TX11 k).2.2.1 = some (tyX11 k) := by decide +kernel
abbrev cX11_init : ByteArray := prog_1_method_1_code
def yX11_init : MethodName := ⟨RX11, "<init>", "()V"⟩
abbrev cX11_town : ByteArray := prog_1_method_2_code
def yX11_town : MethodName := ⟨RX11, "town", "(I)I"⟩
abbrev cX11_deed : ByteArray := prog_1_method_3_code
def yX11_deed : MethodName := ⟨RX11, "deed", "(II)I"⟩
abbrev cX11_marks : ByteArray := prog_1_method_4_code
def yX11_marks : MethodName := ⟨RX11, "marks", "()I"⟩
abbrev cX11_state : ByteArray := prog_1_method_5_code
def yX11_state : MethodName := ⟨RX11, "state", "(I)I"⟩
abbrev cX11_rise : ByteArray := prog_1_method_6_code
def yX11_rise : MethodName := ⟨RX11, "rise", "()I"⟩
abbrev cX11_set : ByteArray := prog_1_method_7_code
def yX11_set : MethodName := ⟨RX11, "set", "(II)I"⟩
abbrev cX11_may : ByteArray := prog_1_method_8_code
def yX11_may : MethodName := ⟨RX11, "may", "(I)I"⟩
abbrev cX11_pair : ByteArray := prog_1_method_9_code
def yX11_pair : MethodName := ⟨RX11, "pair", "(II)I"⟩
abbrev cX11_even : ByteArray := prog_1_method_10_code
def yX11_even : MethodName := ⟨RX11, "even", "(I)I"⟩
abbrev cX11_lasts : ByteArray := prog_1_method_11_code
def yX11_lasts : MethodName := ⟨RX11, "lasts", "(III)I"⟩
abbrev cX11_why : ByteArray := prog_1_method_12_code
def yX11_why : MethodName := ⟨RX11, "why", "(III)I"⟩
abbrev cX11_behind : ByteArray := prog_1_method_13_code
def yX11_behind : MethodName := ⟨RX11, "behind", "(III)I"⟩
abbrev cX11_least : ByteArray := prog_1_method_14_code
def yX11_least : MethodName := ⟨RX11, "least", "(III)I"⟩
abbrev cX11_free : ByteArray := prog_1_method_15_code
def yX11_free : MethodName := ⟨RX11, "free", "(III)I"⟩
abbrev cX11_plan : ByteArray := prog_1_method_16_code
def yX11_plan : MethodName := ⟨RX11, "plan", "(III)I"⟩
abbrev cX11_ever : ByteArray := prog_1_method_17_code
def yX11_ever : MethodName := ⟨RX11, "ever", "()I"⟩
abbrev cX11_help : ByteArray := prog_1_method_18_code
def yX11_help : MethodName := ⟨RX11, "help", "()I"⟩
abbrev cX11_two : ByteArray := prog_1_method_19_code
def yX11_two : MethodName := ⟨RX11, "two", "(IIIII)I"⟩
abbrev cX11_month : ByteArray := prog_1_method_20_code
def yX11_month : MethodName := ⟨RX11, "month", "()I"⟩
abbrev cX11_nail : ByteArray := prog_1_method_21_code
def yX11_nail : MethodName := ⟨RX11, "nail", "(I)I"⟩
abbrev cX11_byLaw : ByteArray := prog_1_method_22_code
def yX11_byLaw : MethodName := ⟨RX11, "byLaw", "(III)I"⟩
abbrev cX11_seeded : ByteArray := prog_1_method_23_code
def yX11_seeded : MethodName := ⟨RX11, "seeded", "(III)I"⟩
abbrev cX11_judge : ByteArray := prog_1_method_24_code
def yX11_judge : MethodName := ⟨RX11, "judge", "(III)I"⟩
abbrev cX11_image : ByteArray := prog_1_method_25_code
def yX11_image : MethodName := ⟨RX11, "image", "()I"⟩
abbrev cX11_restore : ByteArray := prog_1_method_26_code
def yX11_restore : MethodName := ⟨RX11, "restore", "()I"⟩
abbrev cX11_count : ByteArray := prog_1_method_27_code
def yX11_count : MethodName := ⟨RX11, "count", "(I)I"⟩
abbrev cX11_keep : ByteArray := prog_1_method_28_code
def yX11_keep : MethodName := ⟨RX11, "keep", "(III)I"⟩
abbrev cX11_row : ByteArray := prog_1_method_29_code
def yX11_row : MethodName := ⟨RX11, "row", "(III)I"⟩
abbrev cX11_put : ByteArray := prog_1_method_30_code
def yX11_put : MethodName := ⟨RX11, "put", "(III)I"⟩
abbrev cX11_element : ByteArray := prog_1_method_31_code
def yX11_element : MethodName := ⟨RX11, "element", "(II)J"⟩
abbrev cX11_copy : ByteArray := prog_1_method_32_code
def yX11_copy : MethodName := ⟨RX11, "copy", "(IIIII)I"⟩
abbrev cX11_care : ByteArray := prog_1_method_33_code
def yX11_care : MethodName := ⟨RX11, "care", "(I)I"⟩
abbrev cX11_toss : ByteArray := prog_1_method_34_code
def yX11_toss : MethodName := ⟨RX11, "toss", "(I)I"⟩
abbrev cX11_shelfAt : ByteArray := prog_1_method_35_code
def yX11_shelfAt : MethodName := ⟨RX11, "shelfAt", "(I)LBackwardYears$Shelf;"⟩
abbrev cX11_listRefusal : ByteArray := prog_1_method_36_code
def yX11_listRefusal : MethodName := ⟨RX11, "listRefusal", "(I)I"⟩
abbrev cX11_takeList : ByteArray := prog_1_method_37_code
def yX11_takeList : MethodName := ⟨RX11, "takeList", "(I)I"⟩
abbrev cX11_playList : ByteArray := prog_1_method_38_code
def yX11_playList : MethodName := ⟨RX11, "playList", "(II)I"⟩
abbrev cX11_endYears : ByteArray := prog_1_method_39_code
def yX11_endYears : MethodName := ⟨RX11, "endYears", "(I)V"⟩
abbrev cX11_areNails : ByteArray := prog_1_method_40_code
def yX11_areNails : MethodName := ⟨RX11, "areNails", "(I)Z"⟩
abbrev cX11_areMarks : ByteArray := prog_1_method_41_code
def yX11_areMarks : MethodName := ⟨RX11, "areMarks", "(I)Z"⟩
abbrev cX11_counted : ByteArray := prog_1_method_42_code
def yX11_counted : MethodName := ⟨RX11, "counted", "(LBackwardYears$Deed;I)I"⟩
abbrev cX11_freest : ByteArray := prog_1_method_43_code
def yX11_freest : MethodName := ⟨RX11, "freest", "(LBackwardYears$Shelf;II)I"⟩
abbrev cX11_takeOrder : ByteArray := prog_1_method_44_code
def yX11_takeOrder : MethodName := ⟨RX11, "takeOrder", "(LBackwardYears$Shelf;)V"⟩
abbrev cX11_orderDigits : ByteArray := prog_1_method_45_code
def yX11_orderDigits : MethodName := ⟨RX11, "orderDigits", "(I)I"⟩
abbrev cX11_nextOrder : ByteArray := prog_1_method_46_code
def yX11_nextOrder : MethodName := ⟨RX11, "nextOrder", "(I)Z"⟩
abbrev cX11_swapPlaces : ByteArray := prog_1_method_47_code
def yX11_swapPlaces : MethodName := ⟨RX11, "swapPlaces", "(II)V"⟩
abbrev cX11_areWorths : ByteArray := prog_1_method_48_code
def yX11_areWorths : MethodName := ⟨RX11, "areWorths", "(LBackwardYears$Shelf;)Z"⟩
abbrev cX11_listMoves : ByteArray := prog_1_method_49_code
def yX11_listMoves : MethodName := ⟨RX11, "listMoves", "()V"⟩
abbrev cX11_addMoves : ByteArray := prog_1_method_50_code
def yX11_addMoves : MethodName := ⟨RX11, "addMoves", "(III)V"⟩
abbrev cX11_bestMove : ByteArray := prog_1_method_51_code
def yX11_bestMove : MethodName := ⟨RX11, "bestMove", "(ILBackwardYears$Shelf;)I"⟩
abbrev cX11_endedSoBefore : ByteArray := prog_1_method_52_code
def yX11_endedSoBefore : MethodName := ⟨RX11, "endedSoBefore", "(I)Z"⟩
abbrev cX11_worthOfMove : ByteArray := prog_1_method_53_code
def yX11_worthOfMove : MethodName := ⟨RX11, "worthOfMove", "(IILBackwardYears$Shelf;)I"⟩
abbrev cX11_playMove : ByteArray := prog_1_method_54_code
def yX11_playMove : MethodName := ⟨RX11, "playMove", "(III)V"⟩
abbrev cX11_worthOfMarks : ByteArray := prog_1_method_55_code
def yX11_worthOfMarks : MethodName := ⟨RX11, "worthOfMarks", "(ILBackwardYears$Shelf;)I"⟩
abbrev cX11_playTwo : ByteArray := prog_1_method_56_code
def yX11_playTwo : MethodName := ⟨RX11, "playTwo", "(LBackwardYears$Shelf;LBackwardYears$Shelf;II)I"⟩
abbrev cX11_playSeeds : ByteArray := prog_1_method_57_code
def yX11_playSeeds : MethodName := ⟨RX11, "playSeeds", "(II)I"⟩
abbrev cX11_nextSeed : ByteArray := prog_1_method_58_code
def yX11_nextSeed : MethodName := ⟨RX11, "nextSeed", "(I)I"⟩
abbrev cX11_drawn : ByteArray := prog_1_method_59_code
def yX11_drawn : MethodName := ⟨RX11, "drawn", "(II)I"⟩
abbrev cX11_firstWrong : ByteArray := prog_1_method_60_code
def yX11_firstWrong : MethodName := ⟨RX11, "firstWrong", "(LBackwardYears$Shelf;I)I"⟩
abbrev cX11_at : ByteArray := prog_1_method_61_code
def yX11_at : MethodName := ⟨RX11, "at", "([II)I"⟩
abbrev cX11_store : ByteArray := prog_1_method_62_code
def yX11_store : MethodName := ⟨RX11, "store", "([III)V"⟩
def RX12 : String := "BackwardYearsModel"
def TX12 : u_T := fun k => match k with
  | 0 => ("BackwardYearsModel", "s", "[I", true)
  | 1 => ("BackwardYearsModel", "image", "[I", true)
  | 2 => ("BackwardYearsModel", "read", "[I", true)
  | 3 => ("BackwardYearsModel", "kept", "[I", true)
  | 4 => ("BackwardYearsModel", "sort", "[I", true)
  | 5 => ("BackwardYearsModel", "size", "[I", true)
  | 6 => ("BackwardYearsModel", "element", "[I", true)
  | 7 => ("BackwardYearsModel", "keptCare", "[I", true)
  | 8 => ("BackwardYearsModel", "keptToss", "[I", true)
  | 9 => ("BackwardYearsModel", "hasImage", "Z", false)
  | 10 => ("BackwardYearsModel", "thrown", "I", false)
  | 11 => ("BackwardYearsModel", "pos", "I", false)
  | 12 => ("BackwardYearsModel", "base", "I", false)
  | 13 => ("BackwardYearsModel", "end", "I", false)
  | 14 => ("BackwardYearsModel", "told", "I", false)
  | 15 => ("BackwardYearsModel", "letters", "I", false)
  | 16 => ("BackwardYearsModel", "numbers", "[I", true)
  | 17 => ("BackwardYearsModel", "kindRead", "I", false)
  | 18 => ("BackwardYearsModel", "figureRead", "I", false)
  | 19 => ("BackwardYearsModel", "list", "[I", true)
  | 20 => ("BackwardYearsModel", "changed", "[I", true)
  | 21 => ("BackwardYearsModel", "ahead", "[I", true)
  | 22 => ("BackwardYearsModel", "fate", "[I", true)
  | 23 => ("BackwardYearsModel", "behindPlace", "[I", true)
  | 24 => ("BackwardYearsModel", "listed", "I", false)
  | 25 => ("BackwardYearsModel", "nails", "I", false)
  | 26 => ("BackwardYearsModel", "so", "I", false)
  | 27 => ("BackwardYearsModel", "coins", "I", false)
  | 28 => ("BackwardYearsModel", "paid", "I", false)
  | 29 => ("BackwardYearsModel", "undone", "I", false)
  | 30 => ("BackwardYearsModel", "bestNails", "I", false)
  | 31 => ("BackwardYearsModel", "bestPaid", "I", false)
  | 32 => ("BackwardYearsModel", "line", "[I", true)
  | 33 => ("BackwardYearsModel", "bestDigits", "I", false)
  | 34 => ("BackwardYearsModel", "bestMany", "I", false)
  | 35 => ("BackwardYearsModel", "isPlanned", "Z", false)
  | 36 => ("BackwardYearsModel", "bestWorth", "J", false)
  | 37 => ("BackwardYearsModel", "bestFirst", "I", false)
  | 38 => ("BackwardYearsModel", "worths", "I", false)
  | 39 => ("BackwardYearsModel", "whose", "[I", true)
  | _ => ("BackwardYearsModel", "seed", "I", false)
def tyX12 : Nat → FieldType := fun k => match k with
  | 0 => .array .int
  | 1 => .array .int
  | 2 => .array .int
  | 3 => .array .int
  | 4 => .array .int
  | 5 => .array .int
  | 6 => .array .int
  | 7 => .array .int
  | 8 => .array .int
  | 9 => .boolean
  | 10 => .int
  | 11 => .int
  | 12 => .int
  | 13 => .int
  | 14 => .int
  | 15 => .int
  | 16 => .array .int
  | 17 => .int
  | 18 => .int
  | 19 => .array .int
  | 20 => .array .int
  | 21 => .array .int
  | 22 => .array .int
  | 23 => .array .int
  | 24 => .int
  | 25 => .int
  | 26 => .int
  | 27 => .int
  | 28 => .int
  | 29 => .int
  | 30 => .int
  | 31 => .int
  | 32 => .array .int
  | 33 => .int
  | 34 => .int
  | 35 => .boolean
  | 36 => .long
  | 37 => .int
  | 38 => .int
  | 39 => .array .int
  | _ => .int
abbrev wsX120 : List Cond := u_ws RX12 TX12 41
theorem nmX12 : ∀ a, a < 41 → ∀ b, b < 41 → a ≠ b → (TX12 a).2.1 ≠ (TX12 b).2.1 := by decide +kernel
theorem tyX12_ok : ∀ k, k < 41 → parseFieldDescriptor (TX12 k).2.2.1 = some (tyX12 k) := by decide +kernel
abbrev cX12_init : ByteArray := prog_14_method_1_code
def yX12_init : MethodName := ⟨RX12, "<init>", "()V"⟩
abbrev cX12_thrown : ByteArray := prog_14_method_2_code
def yX12_thrown : MethodName := ⟨RX12, "thrown", "()I"⟩
abbrev cX12_isIn : ByteArray := prog_14_method_3_code
def yX12_isIn : MethodName := ⟨RX12, "isIn", "(JJJ)Z"⟩
abbrev cX12_isDeed : ByteArray := prog_14_method_4_code
def yX12_isDeed : MethodName := ⟨RX12, "isDeed", "(I)Z"⟩
abbrev cX12_isShelf : ByteArray := prog_14_method_5_code
def yX12_isShelf : MethodName := ⟨RX12, "isShelf", "(I)Z"⟩
abbrev cX12_isMark : ByteArray := prog_14_method_6_code
def yX12_isMark : MethodName := ⟨RX12, "isMark", "(I)Z"⟩
abbrev cX12_get : ByteArray := prog_14_method_7_code
def yX12_get : MethodName := ⟨RX12, "get", "(II)I"⟩
abbrev cX12_bits : ByteArray := prog_14_method_8_code
def yX12_bits : MethodName := ⟨RX12, "bits", "(I)I"⟩
abbrev cX12_here : ByteArray := prog_14_method_9_code
def yX12_here : MethodName := ⟨RX12, "here", "()I"⟩
abbrev cX12_isDigit : ByteArray := prog_14_method_10_code
def yX12_isDigit : MethodName := ⟨RX12, "isDigit", "()Z"⟩
abbrev cX12_takes : ByteArray := prog_14_method_11_code
def yX12_takes : MethodName := ⟨RX12, "takes", "(I)Z"⟩
abbrev cX12_readsNumber : ByteArray := prog_14_method_12_code
def yX12_readsNumber : MethodName := ⟨RX12, "readsNumber", "(I)Z"⟩
abbrev cX12_readsMark : ByteArray := prog_14_method_13_code
def yX12_readsMark : MethodName := ⟨RX12, "readsMark", "()Z"⟩
abbrev cX12_readsDeed : ByteArray := prog_14_method_14_code
def yX12_readsDeed : MethodName := ⟨RX12, "readsDeed", "()Z"⟩
abbrev cX12_readsStatement : ByteArray := prog_14_method_15_code
def yX12_readsStatement : MethodName := ⟨RX12, "readsStatement", "()Z"⟩
abbrev cX12_comes : ByteArray := prog_14_method_16_code
def yX12_comes : MethodName := ⟨RX12, "comes", "(I)Z"⟩
abbrev cX12_wrongRow : ByteArray := prog_14_method_17_code
def yX12_wrongRow : MethodName := ⟨RX12, "wrongRow", "(II)I"⟩
abbrev cX12_town : ByteArray := prog_14_method_18_code
def yX12_town : MethodName := ⟨RX12, "town", "(I)I"⟩
abbrev cX12_costOf : ByteArray := prog_14_method_19_code
def yX12_costOf : MethodName := ⟨RX12, "costOf", "(I)I"⟩
abbrev cX12_backOf : ByteArray := prog_14_method_20_code
def yX12_backOf : MethodName := ⟨RX12, "backOf", "(I)I"⟩
abbrev cX12_isKept : ByteArray := prog_14_method_21_code
def yX12_isKept : MethodName := ⟨RX12, "isKept", "(I)Z"⟩
abbrev cX12_marksBy : ByteArray := prog_14_method_22_code
def yX12_marksBy : MethodName := ⟨RX12, "marksBy", "(II)I"⟩
abbrev cX12_mayBy : ByteArray := prog_14_method_23_code
def yX12_mayBy : MethodName := ⟨RX12, "mayBy", "(III)Z"⟩
abbrev cX12_deed : ByteArray := prog_14_method_24_code
def yX12_deed : MethodName := ⟨RX12, "deed", "(II)I"⟩
abbrev cX12_marks : ByteArray := prog_14_method_25_code
def yX12_marks : MethodName := ⟨RX12, "marks", "()I"⟩
abbrev cX12_state : ByteArray := prog_14_method_26_code
def yX12_state : MethodName := ⟨RX12, "state", "(I)I"⟩
abbrev cX12_rise : ByteArray := prog_14_method_27_code
def yX12_rise : MethodName := ⟨RX12, "rise", "()I"⟩
abbrev cX12_set : ByteArray := prog_14_method_28_code
def yX12_set : MethodName := ⟨RX12, "set", "(II)I"⟩
abbrev cX12_may : ByteArray := prog_14_method_29_code
def yX12_may : MethodName := ⟨RX12, "may", "(I)I"⟩
abbrev cX12_priceOf : ByteArray := prog_14_method_30_code
def yX12_priceOf : MethodName := ⟨RX12, "priceOf", "(I)I"⟩
abbrev cX12_wrongList : ByteArray := prog_14_method_31_code
def yX12_wrongList : MethodName := ⟨RX12, "wrongList", "(I)I"⟩
abbrev cX12_lays : ByteArray := prog_14_method_32_code
def yX12_lays : MethodName := ⟨RX12, "lays", "(II)V"⟩
abbrev cX12_begins : ByteArray := prog_14_method_33_code
def yX12_begins : MethodName := ⟨RX12, "begins", "()V"⟩
abbrev cX12_evenYear : ByteArray := prog_14_method_34_code
def yX12_evenYear : MethodName := ⟨RX12, "evenYear", "()V"⟩
abbrev cX12_undoes : ByteArray := prog_14_method_35_code
def yX12_undoes : MethodName := ⟨RX12, "undoes", "(II)V"⟩
abbrev cX12_holds : ByteArray := prog_14_method_36_code
def yX12_holds : MethodName := ⟨RX12, "holds", "(I)Z"⟩
abbrev cX12_isHeld : ByteArray := prog_14_method_37_code
def yX12_isHeld : MethodName := ⟨RX12, "isHeld", "(I)Z"⟩
abbrev cX12_falls : ByteArray := prog_14_method_38_code
def yX12_falls : MethodName := ⟨RX12, "falls", "()V"⟩
abbrev cX12_oddYear : ByteArray := prog_14_method_39_code
def yX12_oddYear : MethodName := ⟨RX12, "oddYear", "()V"⟩
abbrev cX12_pairOf : ByteArray := prog_14_method_40_code
def yX12_pairOf : MethodName := ⟨RX12, "pairOf", "()V"⟩
abbrev cX12_standing : ByteArray := prog_14_method_41_code
def yX12_standing : MethodName := ⟨RX12, "standing", "()I"⟩
abbrev cX12_areNails : ByteArray := prog_14_method_42_code
def yX12_areNails : MethodName := ⟨RX12, "areNails", "(I)Z"⟩
abbrev cX12_pair : ByteArray := prog_14_method_43_code
def yX12_pair : MethodName := ⟨RX12, "pair", "(II)I"⟩
abbrev cX12_even : ByteArray := prog_14_method_44_code
def yX12_even : MethodName := ⟨RX12, "even", "(I)I"⟩
abbrev cX12_lasts : ByteArray := prog_14_method_45_code
def yX12_lasts : MethodName := ⟨RX12, "lasts", "(III)I"⟩
abbrev cX12_why : ByteArray := prog_14_method_46_code
def yX12_why : MethodName := ⟨RX12, "why", "(III)I"⟩
abbrev cX12_behind : ByteArray := prog_14_method_47_code
def yX12_behind : MethodName := ⟨RX12, "behind", "(III)I"⟩
abbrev cX12_finds : ByteArray := prog_14_method_48_code
def yX12_finds : MethodName := ⟨RX12, "finds", "(I)Z"⟩
abbrev cX12_least : ByteArray := prog_14_method_49_code
def yX12_least : MethodName := ⟨RX12, "least", "(III)I"⟩
abbrev cX12_lines : ByteArray := prog_14_method_50_code
def yX12_lines : MethodName := ⟨RX12, "lines", "(IIII)V"⟩
abbrev cX12_free : ByteArray := prog_14_method_51_code
def yX12_free : MethodName := ⟨RX12, "free", "(III)I"⟩
abbrev cX12_worthOf : ByteArray := prog_14_method_52_code
def yX12_worthOf : MethodName := ⟨RX12, "worthOf", "(I)J"⟩
abbrev cX12_tries : ByteArray := prog_14_method_53_code
def yX12_tries : MethodName := ⟨RX12, "tries", "(IIIIIII)V"⟩
abbrev cX12_plans : ByteArray := prog_14_method_54_code
def yX12_plans : MethodName := ⟨RX12, "plans", "(IIII)V"⟩
abbrev cX12_plan : ByteArray := prog_14_method_55_code
def yX12_plan : MethodName := ⟨RX12, "plan", "(III)I"⟩
abbrev cX12_ever : ByteArray := prog_14_method_56_code
def yX12_ever : MethodName := ⟨RX12, "ever", "()I"⟩
abbrev cX12_help : ByteArray := prog_14_method_57_code
def yX12_help : MethodName := ⟨RX12, "help", "()I"⟩
abbrev cX12_two : ByteArray := prog_14_method_58_code
def yX12_two : MethodName := ⟨RX12, "two", "(IIIII)I"⟩
abbrev cX12_month : ByteArray := prog_14_method_59_code
def yX12_month : MethodName := ⟨RX12, "month", "()I"⟩
abbrev cX12_nail : ByteArray := prog_14_method_60_code
def yX12_nail : MethodName := ⟨RX12, "nail", "(I)I"⟩
abbrev cX12_byLaw : ByteArray := prog_14_method_61_code
def yX12_byLaw : MethodName := ⟨RX12, "byLaw", "(III)I"⟩
abbrev cX12_drawn : ByteArray := prog_14_method_62_code
def yX12_drawn : MethodName := ⟨RX12, "drawn", "(I)I"⟩
abbrev cX12_seeded : ByteArray := prog_14_method_63_code
def yX12_seeded : MethodName := ⟨RX12, "seeded", "(III)I"⟩
abbrev cX12_leastOf : ByteArray := prog_14_method_64_code
def yX12_leastOf : MethodName := ⟨RX12, "leastOf", "(I)I"⟩
abbrev cX12_judge : ByteArray := prog_14_method_65_code
def yX12_judge : MethodName := ⟨RX12, "judge", "(III)I"⟩
abbrev cX12_image : ByteArray := prog_14_method_66_code
def yX12_image : MethodName := ⟨RX12, "image", "()I"⟩
abbrev cX12_restore : ByteArray := prog_14_method_67_code
def yX12_restore : MethodName := ⟨RX12, "restore", "()I"⟩
abbrev cX12_count : ByteArray := prog_14_method_68_code
def yX12_count : MethodName := ⟨RX12, "count", "(I)I"⟩
abbrev cX12_careOf : ByteArray := prog_14_method_69_code
def yX12_careOf : MethodName := ⟨RX12, "careOf", "(I)I"⟩
abbrev cX12_keep : ByteArray := prog_14_method_70_code
def yX12_keep : MethodName := ⟨RX12, "keep", "(III)I"⟩
abbrev cX12_row : ByteArray := prog_14_method_71_code
def yX12_row : MethodName := ⟨RX12, "row", "(III)I"⟩
abbrev cX12_put : ByteArray := prog_14_method_72_code
def yX12_put : MethodName := ⟨RX12, "put", "(III)I"⟩
abbrev cX12_element : ByteArray := prog_14_method_73_code
def yX12_element : MethodName := ⟨RX12, "element", "(II)J"⟩
abbrev cX12_copy : ByteArray := prog_14_method_74_code
def yX12_copy : MethodName := ⟨RX12, "copy", "(IIIII)I"⟩
abbrev cX12_wrongKept : ByteArray := prog_14_method_75_code
def yX12_wrongKept : MethodName := ⟨RX12, "wrongKept", "(I)I"⟩
abbrev cX12_care : ByteArray := prog_14_method_76_code
def yX12_care : MethodName := ⟨RX12, "care", "(I)I"⟩
abbrev cX12_toss : ByteArray := prog_14_method_77_code
def yX12_toss : MethodName := ⟨RX12, "toss", "(I)I"⟩
def RJ6 : String := "java/lang/Integer"
def TJ6 : u_T := fun k => match k with
  | _ => ("", "", "", false)
def tyJ6 : Nat → FieldType := fun k => match k with
  | _ => .int
theorem nmJ6 : ∀ a, a < 0 → ∀ b, b < 0 → a ≠ b → (TJ6 a).2.1 ≠ (TJ6 b).2.1 := by decide +kernel
theorem tyJ6_ok : ∀ k, k < 0 → parseFieldDescriptor (TJ6 k).2.2.1 = some (tyJ6 k) := by decide +kernel
abbrev cJ6_bitCount_0f7a4 : ByteArray := prog_18_method_49_code
def yJ6_bitCount_0f7a4 : MethodName := ⟨RJ6, "bitCount", "(I)I"⟩
def RJ9 : String := "java/lang/Math"
def TJ9 : u_T := fun k => match k with
  | _ => ("", "", "", false)
def tyJ9 : Nat → FieldType := fun k => match k with
  | _ => .int
theorem nmJ9 : ∀ a, a < 0 → ∀ b, b < 0 → a ≠ b → (TJ9 a).2.1 ≠ (TJ9 b).2.1 := by decide +kernel
theorem tyJ9_ok : ∀ k, k < 0 → parseFieldDescriptor (TJ9 k).2.2.1 = some (tyJ9 k) := by decide +kernel
abbrev cJ9_max_7cf53 : ByteArray := prog_19_method_65_code
def yJ9_max_7cf53 : MethodName := ⟨RJ9, "max", "(II)I"⟩
abbrev cJ9_min_7cf53 : ByteArray := prog_19_method_69_code
def yJ9_min_7cf53 : MethodName := ⟨RJ9, "min", "(II)I"⟩
def RJ0 : String := "java/lang/String"
def TJ0 : u_T := fun k => match k with
  | _ => ("", "", "", false)
def tyJ0 : Nat → FieldType := fun k => match k with
  | _ => .int
theorem nmJ0 : ∀ a, a < 0 → ∀ b, b < 0 → a ≠ b → (TJ0 a).2.1 ≠ (TJ0 b).2.1 := by decide +kernel
theorem tyJ0_ok : ∀ k, k < 0 → parseFieldDescriptor (TJ0 k).2.2.1 = some (tyJ0 k) := by decide +kernel
def RJ10 : String := "java/lang/System"
def TJ10 : u_T := fun k => match k with
  | _ => ("", "", "", false)
def tyJ10 : Nat → FieldType := fun k => match k with
  | _ => .int
theorem nmJ10 : ∀ a, a < 0 → ∀ b, b < 0 → a ≠ b → (TJ10 a).2.1 ≠ (TJ10 b).2.1 := by decide +kernel
theorem tyJ10_ok : ∀ k, k < 0 → parseFieldDescriptor (TJ10 k).2.2.1 = some (tyJ10 k) := by decide +kernel
def RL : String := "BackwardYearsLaw"
abbrev cL_element : ByteArray := method_3_code
def yL_element : MethodName := ⟨RL, "element", "(LBackwardYears;II[J)I"⟩
abbrev cL_law : ByteArray := code
def yL_law : MethodName := ⟨RL, "law", "([I)Z"⟩
abbrev vwCl : List vw_C := [(RX0, TX0, 14), (RX1, TX1, 14), (RX2, TX2, 14), (RX3, TX3, 14), (RX4, TX4, 14), (RX5, TX5, 14), (RX6, TX6, 4), (RX7, TX7, 14), (RX8, TX8, 14), (RX9, TX9, 8), (RX10, TX10, 14), (RX11, TX11, 10), (RX12, TX12, 41)]
end
section
theorem dX0_init_0 : decode cX0_init 0 = .ok (.aload_n 0, 1) := by decide +kernel
theorem dX0_init_1 : decode cX0_init 1 = .ok (.iload_n 1, 1) := by decide +kernel
theorem dX0_init_2 : decode cX0_init 2 = .ok (.iload_n 2, 1) := by decide +kernel
theorem dX0_init_3 : decode cX0_init 3 = .ok (.iload_n 3, 1) := by decide +kernel
theorem dX0_init_4 : decode cX0_init 4 = .ok (.iload 4, 2) := by decide +kernel
theorem dX0_init_6 : decode cX0_init 6 = .ok (.iload 5, 2) := by decide +kernel
theorem dX0_init_8 : decode cX0_init 8 = .ok (.invokespecial 3, 3) := by decide +kernel
theorem dX0_init_11 : decode cX0_init 11 = .ok (.aload_n 0, 1) := by decide +kernel
theorem dX0_init_12 : decode cX0_init 12 = .ok (.iconst 5, 1) := by decide +kernel
theorem dX0_init_13 : decode cX0_init 13 = .ok (.putfield 9, 3) := by decide +kernel
theorem dX0_init_16 : decode cX0_init 16 = .ok (.aload_n 0, 1) := by decide +kernel
theorem dX0_init_17 : decode cX0_init 17 = .ok (.dup, 1) := by decide +kernel
theorem dX0_init_18 : decode cX0_init 18 = .ok (.getfield 15, 3) := by decide +kernel
theorem dX0_init_21 : decode cX0_init 21 = .ok (.iconst 5, 1) := by decide +kernel
theorem dX0_init_22 : decode cX0_init 22 = .ok (.iadd, 1) := by decide +kernel
theorem dX0_init_23 : decode cX0_init 23 = .ok (.putfield 15, 3) := by decide +kernel
theorem dX0_init_26 : decode cX0_init 26 = .ok (.aload_n 0, 1) := by decide +kernel
theorem dX0_init_27 : decode cX0_init 27 = .ok (.aload_n 0, 1) := by decide +kernel
theorem dX0_init_28 : decode cX0_init 28 = .ok (.getfield 15, 3) := by decide +kernel
theorem dX0_init_31 : decode cX0_init 31 = .ok (.iconst 2, 1) := by decide +kernel
theorem dX0_init_32 : decode cX0_init 32 = .ok (.idiv, 1) := by decide +kernel
theorem dX0_init_33 : decode cX0_init 33 = .ok (.putfield 18, 3) := by decide +kernel
theorem dX0_init_36 : decode cX0_init 36 = .ok (.aload_n 0, 1) := by decide +kernel
theorem dX0_init_37 : decode cX0_init 37 = .ok (.iload 5, 2) := by decide +kernel
theorem dX0_init_39 : decode cX0_init 39 = .ok (.bipush 9, 2) := by decide +kernel
theorem dX0_init_41 : decode cX0_init 41 = .ok (.if_icmp .ne 7, 3) := by decide +kernel
theorem dX0_init_44 : decode cX0_init 44 = .ok (.iconst 1, 1) := by decide +kernel
theorem dX0_init_45 : decode cX0_init 45 = .ok (.goto 4, 3) := by decide +kernel
theorem dX0_init_48 : decode cX0_init 48 = .ok (.iconst 0, 1) := by decide +kernel
theorem dX0_init_49 : decode cX0_init 49 = .ok (.putfield 21, 3) := by decide +kernel
theorem dX0_init_52 : decode cX0_init 52 = .ok (.aload_n 0, 1) := by decide +kernel
theorem dX0_init_53 : decode cX0_init 53 = .ok (.dup, 1) := by decide +kernel
theorem dX0_init_54 : decode cX0_init 54 = .ok (.getfield 25, 3) := by decide +kernel
theorem dX0_init_57 : decode cX0_init 57 = .ok (.iconst 1, 1) := by decide +kernel
theorem dX0_init_58 : decode cX0_init 58 = .ok (.iadd, 1) := by decide +kernel
theorem dX0_init_59 : decode cX0_init 59 = .ok (.putfield 25, 3) := by decide +kernel
theorem dX0_init_62 : decode cX0_init 62 = .ok (.aload_n 0, 1) := by decide +kernel
theorem dX0_init_63 : decode cX0_init 63 = .ok (.dup, 1) := by decide +kernel
theorem dX0_init_64 : decode cX0_init 64 = .ok (.getfield 28, 3) := by decide +kernel
theorem dX0_init_67 : decode cX0_init 67 = .ok (.bipush 100, 2) := by decide +kernel
theorem dX0_init_69 : decode cX0_init 69 = .ok (.iadd, 1) := by decide +kernel
theorem dX0_init_70 : decode cX0_init 70 = .ok (.putfield 28, 3) := by decide +kernel
theorem dX0_init_73 : decode cX0_init 73 = .ok (.return_, 1) := by decide +kernel
theorem dX1_init_0 : decode cX1_init 0 = .ok (.aload_n 0, 1) := by decide +kernel
theorem dX1_init_1 : decode cX1_init 1 = .ok (.invokespecial 3, 3) := by decide +kernel
theorem dX1_init_4 : decode cX1_init 4 = .ok (.aload_n 0, 1) := by decide +kernel
theorem dX1_init_5 : decode cX1_init 5 = .ok (.iconst 0, 1) := by decide +kernel
theorem dX1_init_6 : decode cX1_init 6 = .ok (.putfield 9, 3) := by decide +kernel
theorem dX1_init_9 : decode cX1_init 9 = .ok (.aload_n 0, 1) := by decide +kernel
theorem dX1_init_10 : decode cX1_init 10 = .ok (.iconst 4, 1) := by decide +kernel
theorem dX1_init_11 : decode cX1_init 11 = .ok (.putfield 15, 3) := by decide +kernel
theorem dX1_init_14 : decode cX1_init 14 = .ok (.aload_n 0, 1) := by decide +kernel
theorem dX1_init_15 : decode cX1_init 15 = .ok (.iload_n 1, 1) := by decide +kernel
theorem dX1_init_16 : decode cX1_init 16 = .ok (.putfield 18, 3) := by decide +kernel
theorem dX1_init_19 : decode cX1_init 19 = .ok (.aload_n 0, 1) := by decide +kernel
theorem dX1_init_20 : decode cX1_init 20 = .ok (.iload_n 2, 1) := by decide +kernel
theorem dX1_init_21 : decode cX1_init 21 = .ok (.putfield 21, 3) := by decide +kernel
theorem dX1_init_24 : decode cX1_init 24 = .ok (.aload_n 0, 1) := by decide +kernel
theorem dX1_init_25 : decode cX1_init 25 = .ok (.iload_n 3, 1) := by decide +kernel
theorem dX1_init_26 : decode cX1_init 26 = .ok (.putfield 24, 3) := by decide +kernel
theorem dX1_init_29 : decode cX1_init 29 = .ok (.aload_n 0, 1) := by decide +kernel
theorem dX1_init_30 : decode cX1_init 30 = .ok (.iload 4, 2) := by decide +kernel
theorem dX1_init_32 : decode cX1_init 32 = .ok (.putfield 27, 3) := by decide +kernel
theorem dX1_init_35 : decode cX1_init 35 = .ok (.aload_n 0, 1) := by decide +kernel
theorem dX1_init_36 : decode cX1_init 36 = .ok (.iload 5, 2) := by decide +kernel
theorem dX1_init_38 : decode cX1_init 38 = .ok (.putfield 30, 3) := by decide +kernel
theorem dX1_init_41 : decode cX1_init 41 = .ok (.aload_n 0, 1) := by decide +kernel
theorem dX1_init_42 : decode cX1_init 42 = .ok (.iload 4, 2) := by decide +kernel
theorem dX1_init_44 : decode cX1_init 44 = .ok (.putfield 33, 3) := by decide +kernel
theorem dX1_init_47 : decode cX1_init 47 = .ok (.aload_n 0, 1) := by decide +kernel
theorem dX1_init_48 : decode cX1_init 48 = .ok (.iload 4, 2) := by decide +kernel
theorem dX1_init_50 : decode cX1_init 50 = .ok (.putfield 36, 3) := by decide +kernel
theorem dX1_init_53 : decode cX1_init 53 = .ok (.aload_n 0, 1) := by decide +kernel
theorem dX1_init_54 : decode cX1_init 54 = .ok (.iconst 1, 1) := by decide +kernel
theorem dX1_init_55 : decode cX1_init 55 = .ok (.iload_n 3, 1) := by decide +kernel
theorem dX1_init_56 : decode cX1_init 56 = .ok (.ishl, 1) := by decide +kernel
theorem dX1_init_57 : decode cX1_init 57 = .ok (.putfield 39, 3) := by decide +kernel
theorem dX1_init_60 : decode cX1_init 60 = .ok (.aload_n 0, 1) := by decide +kernel
theorem dX1_init_61 : decode cX1_init 61 = .ok (.iload_n 1, 1) := by decide +kernel
theorem dX1_init_62 : decode cX1_init 62 = .ok (.putfield 42, 3) := by decide +kernel
theorem dX1_init_65 : decode cX1_init 65 = .ok (.aload_n 0, 1) := by decide +kernel
theorem dX1_init_66 : decode cX1_init 66 = .ok (.iload 5, 2) := by decide +kernel
theorem dX1_init_68 : decode cX1_init 68 = .ok (.ifCond .eq 7, 3) := by decide +kernel
theorem dX1_init_71 : decode cX1_init 71 = .ok (.iconst 1, 1) := by decide +kernel
theorem dX1_init_72 : decode cX1_init 72 = .ok (.goto 4, 3) := by decide +kernel
theorem dX1_init_75 : decode cX1_init 75 = .ok (.iconst 0, 1) := by decide +kernel
theorem dX1_init_76 : decode cX1_init 76 = .ok (.putfield 45, 3) := by decide +kernel
theorem dX1_init_79 : decode cX1_init 79 = .ok (.return_, 1) := by decide +kernel
theorem dX1_hasGround_0 : decode cX1_hasGround 0 = .ok (.aload_n 0, 1) := by decide +kernel
theorem dX1_hasGround_1 : decode cX1_hasGround 1 = .ok (.getfield 21, 3) := by decide +kernel
theorem dX1_hasGround_4 : decode cX1_hasGround 4 = .ok (.iload_n 1, 1) := by decide +kernel
theorem dX1_hasGround_5 : decode cX1_hasGround 5 = .ok (.iconst (-1), 1) := by decide +kernel
theorem dX1_hasGround_6 : decode cX1_hasGround 6 = .ok (.ixor, 1) := by decide +kernel
theorem dX1_hasGround_7 : decode cX1_hasGround 7 = .ok (.iand, 1) := by decide +kernel
theorem dX1_hasGround_8 : decode cX1_hasGround 8 = .ok (.ifCond .ne 7, 3) := by decide +kernel
theorem dX1_hasGround_11 : decode cX1_hasGround 11 = .ok (.iconst 1, 1) := by decide +kernel
theorem dX1_hasGround_12 : decode cX1_hasGround 12 = .ok (.goto 4, 3) := by decide +kernel
theorem dX1_hasGround_15 : decode cX1_hasGround 15 = .ok (.iconst 0, 1) := by decide +kernel
theorem dX1_hasGround_16 : decode cX1_hasGround 16 = .ok (.ireturn, 1) := by decide +kernel
theorem dX1_mayBeDone_0 : decode cX1_mayBeDone 0 = .ok (.aload_n 0, 1) := by decide +kernel
theorem dX1_mayBeDone_1 : decode cX1_mayBeDone 1 = .ok (.iload_n 1, 1) := by decide +kernel
theorem dX1_mayBeDone_2 : decode cX1_mayBeDone 2 = .ok (.invokevirtual 49, 3) := by decide +kernel
theorem dX1_mayBeDone_5 : decode cX1_mayBeDone 5 = .ok (.ifCond .eq 15, 3) := by decide +kernel
theorem dX1_mayBeDone_8 : decode cX1_mayBeDone 8 = .ok (.iload_n 2, 1) := by decide +kernel
theorem dX1_mayBeDone_9 : decode cX1_mayBeDone 9 = .ok (.aload_n 0, 1) := by decide +kernel
theorem dX1_mayBeDone_10 : decode cX1_mayBeDone 10 = .ok (.getfield 33, 3) := by decide +kernel
theorem dX1_mayBeDone_13 : decode cX1_mayBeDone 13 = .ok (.if_icmp .lt 7, 3) := by decide +kernel
theorem dX1_mayBeDone_16 : decode cX1_mayBeDone 16 = .ok (.iconst 1, 1) := by decide +kernel
theorem dX1_mayBeDone_17 : decode cX1_mayBeDone 17 = .ok (.goto 4, 3) := by decide +kernel
theorem dX1_mayBeDone_20 : decode cX1_mayBeDone 20 = .ok (.iconst 0, 1) := by decide +kernel
theorem dX1_mayBeDone_21 : decode cX1_mayBeDone 21 = .ok (.ireturn, 1) := by decide +kernel
theorem dX1_marksBehind_0 : decode cX1_marksBehind 0 = .ok (.iload_n 1, 1) := by decide +kernel
theorem dX1_marksBehind_1 : decode cX1_marksBehind 1 = .ok (.aload_n 0, 1) := by decide +kernel
theorem dX1_marksBehind_2 : decode cX1_marksBehind 2 = .ok (.getfield 39, 3) := by decide +kernel
theorem dX1_marksBehind_5 : decode cX1_marksBehind 5 = .ok (.ior, 1) := by decide +kernel
theorem dX1_marksBehind_6 : decode cX1_marksBehind 6 = .ok (.aload_n 0, 1) := by decide +kernel
theorem dX1_marksBehind_7 : decode cX1_marksBehind 7 = .ok (.getfield 53, 3) := by decide +kernel
theorem dX1_marksBehind_10 : decode cX1_marksBehind 10 = .ok (.iconst (-1), 1) := by decide +kernel
theorem dX1_marksBehind_11 : decode cX1_marksBehind 11 = .ok (.ixor, 1) := by decide +kernel
theorem dX1_marksBehind_12 : decode cX1_marksBehind 12 = .ok (.iand, 1) := by decide +kernel
theorem dX1_marksBehind_13 : decode cX1_marksBehind 13 = .ok (.ireturn, 1) := by decide +kernel
theorem dX1_fail_0 : decode cX1_fail 0 = .ok (.aload_n 0, 1) := by decide +kernel
theorem dX1_fail_1 : decode cX1_fail 1 = .ok (.getfield 45, 3) := by decide +kernel
theorem dX1_fail_4 : decode cX1_fail 4 = .ok (.ifCond .eq 13, 3) := by decide +kernel
theorem dX1_fail_7 : decode cX1_fail 7 = .ok (.new 56, 3) := by decide +kernel
theorem dX1_fail_10 : decode cX1_fail 10 = .ok (.dup, 1) := by decide +kernel
theorem dX1_fail_11 : decode cX1_fail 11 = .ok (.ldc 58, 2) := by decide +kernel
theorem dX1_fail_13 : decode cX1_fail 13 = .ok (.invokespecial 60, 3) := by decide +kernel
theorem dX1_fail_16 : decode cX1_fail 16 = .ok (.athrow, 1) := by decide +kernel
theorem dX1_fail_17 : decode cX1_fail 17 = .ok (.return_, 1) := by decide +kernel
theorem dX2_init_0 : decode cX2_init 0 = .ok (.aload_n 0, 1) := by decide +kernel
theorem dX2_init_1 : decode cX2_init 1 = .ok (.iload_n 1, 1) := by decide +kernel
theorem dX2_init_2 : decode cX2_init 2 = .ok (.iload_n 2, 1) := by decide +kernel
theorem dX2_init_3 : decode cX2_init 3 = .ok (.iload_n 3, 1) := by decide +kernel
theorem dX2_init_4 : decode cX2_init 4 = .ok (.iload 4, 2) := by decide +kernel
theorem dX2_init_6 : decode cX2_init 6 = .ok (.iload 5, 2) := by decide +kernel
theorem dX2_init_8 : decode cX2_init 8 = .ok (.invokespecial 3, 3) := by decide +kernel
theorem dX2_init_11 : decode cX2_init 11 = .ok (.aload_n 0, 1) := by decide +kernel
theorem dX2_init_12 : decode cX2_init 12 = .ok (.iconst 3, 1) := by decide +kernel
theorem dX2_init_13 : decode cX2_init 13 = .ok (.putfield 9, 3) := by decide +kernel
theorem dX2_init_16 : decode cX2_init 16 = .ok (.aload_n 0, 1) := by decide +kernel
theorem dX2_init_17 : decode cX2_init 17 = .ok (.dup, 1) := by decide +kernel
theorem dX2_init_18 : decode cX2_init 18 = .ok (.getfield 15, 3) := by decide +kernel
theorem dX2_init_21 : decode cX2_init 21 = .ok (.iconst 2, 1) := by decide +kernel
theorem dX2_init_22 : decode cX2_init 22 = .ok (.idiv, 1) := by decide +kernel
theorem dX2_init_23 : decode cX2_init 23 = .ok (.putfield 15, 3) := by decide +kernel
theorem dX2_init_26 : decode cX2_init 26 = .ok (.aload_n 0, 1) := by decide +kernel
theorem dX2_init_27 : decode cX2_init 27 = .ok (.iload 5, 2) := by decide +kernel
theorem dX2_init_29 : decode cX2_init 29 = .ok (.putfield 18, 3) := by decide +kernel
theorem dX2_init_32 : decode cX2_init 32 = .ok (.aload_n 0, 1) := by decide +kernel
theorem dX2_init_33 : decode cX2_init 33 = .ok (.dup, 1) := by decide +kernel
theorem dX2_init_34 : decode cX2_init 34 = .ok (.getfield 21, 3) := by decide +kernel
theorem dX2_init_37 : decode cX2_init 37 = .ok (.iload 5, 2) := by decide +kernel
theorem dX2_init_39 : decode cX2_init 39 = .ok (.isub, 1) := by decide +kernel
theorem dX2_init_40 : decode cX2_init 40 = .ok (.putfield 21, 3) := by decide +kernel
theorem dX2_init_43 : decode cX2_init 43 = .ok (.aload_n 0, 1) := by decide +kernel
theorem dX2_init_44 : decode cX2_init 44 = .ok (.iconst 0, 1) := by decide +kernel
theorem dX2_init_45 : decode cX2_init 45 = .ok (.putfield 24, 3) := by decide +kernel
theorem dX2_init_48 : decode cX2_init 48 = .ok (.return_, 1) := by decide +kernel
theorem dX3_init_0 : decode cX3_init 0 = .ok (.aload_n 0, 1) := by decide +kernel
theorem dX3_init_1 : decode cX3_init 1 = .ok (.iload_n 1, 1) := by decide +kernel
theorem dX3_init_2 : decode cX3_init 2 = .ok (.iload_n 2, 1) := by decide +kernel
theorem dX3_init_3 : decode cX3_init 3 = .ok (.iload_n 3, 1) := by decide +kernel
theorem dX3_init_4 : decode cX3_init 4 = .ok (.iload 4, 2) := by decide +kernel
theorem dX3_init_6 : decode cX3_init 6 = .ok (.iload 5, 2) := by decide +kernel
theorem dX3_init_8 : decode cX3_init 8 = .ok (.invokespecial 3, 3) := by decide +kernel
theorem dX3_init_11 : decode cX3_init 11 = .ok (.aload_n 0, 1) := by decide +kernel
theorem dX3_init_12 : decode cX3_init 12 = .ok (.bipush 6, 2) := by decide +kernel
theorem dX3_init_14 : decode cX3_init 14 = .ok (.putfield 9, 3) := by decide +kernel
theorem dX3_init_17 : decode cX3_init 17 = .ok (.aload_n 0, 1) := by decide +kernel
theorem dX3_init_18 : decode cX3_init 18 = .ok (.aload_n 0, 1) := by decide +kernel
theorem dX3_init_19 : decode cX3_init 19 = .ok (.getfield 15, 3) := by decide +kernel
theorem dX3_init_22 : decode cX3_init 22 = .ok (.putfield 18, 3) := by decide +kernel
theorem dX3_init_25 : decode cX3_init 25 = .ok (.aload_n 0, 1) := by decide +kernel
theorem dX3_init_26 : decode cX3_init 26 = .ok (.iconst 0, 1) := by decide +kernel
theorem dX3_init_27 : decode cX3_init 27 = .ok (.putfield 15, 3) := by decide +kernel
theorem dX3_init_30 : decode cX3_init 30 = .ok (.aload_n 0, 1) := by decide +kernel
theorem dX3_init_31 : decode cX3_init 31 = .ok (.dup, 1) := by decide +kernel
theorem dX3_init_32 : decode cX3_init 32 = .ok (.getfield 21, 3) := by decide +kernel
theorem dX3_init_35 : decode cX3_init 35 = .ok (.iconst 2, 1) := by decide +kernel
theorem dX3_init_36 : decode cX3_init 36 = .ok (.imul, 1) := by decide +kernel
theorem dX3_init_37 : decode cX3_init 37 = .ok (.putfield 21, 3) := by decide +kernel
theorem dX3_init_40 : decode cX3_init 40 = .ok (.return_, 1) := by decide +kernel
theorem dX4_init_0 : decode cX4_init 0 = .ok (.aload_n 0, 1) := by decide +kernel
theorem dX4_init_1 : decode cX4_init 1 = .ok (.iload_n 1, 1) := by decide +kernel
theorem dX4_init_2 : decode cX4_init 2 = .ok (.iload_n 2, 1) := by decide +kernel
theorem dX4_init_3 : decode cX4_init 3 = .ok (.iload_n 3, 1) := by decide +kernel
theorem dX4_init_4 : decode cX4_init 4 = .ok (.iload 4, 2) := by decide +kernel
theorem dX4_init_6 : decode cX4_init 6 = .ok (.iload 5, 2) := by decide +kernel
theorem dX4_init_8 : decode cX4_init 8 = .ok (.invokespecial 3, 3) := by decide +kernel
theorem dX4_init_11 : decode cX4_init 11 = .ok (.aload_n 0, 1) := by decide +kernel
theorem dX4_init_12 : decode cX4_init 12 = .ok (.iconst 1, 1) := by decide +kernel
theorem dX4_init_13 : decode cX4_init 13 = .ok (.putfield 9, 3) := by decide +kernel
theorem dX4_init_16 : decode cX4_init 16 = .ok (.aload_n 0, 1) := by decide +kernel
theorem dX4_init_17 : decode cX4_init 17 = .ok (.dup, 1) := by decide +kernel
theorem dX4_init_18 : decode cX4_init 18 = .ok (.getfield 15, 3) := by decide +kernel
theorem dX4_init_21 : decode cX4_init 21 = .ok (.iload 5, 2) := by decide +kernel
theorem dX4_init_23 : decode cX4_init 23 = .ok (.iadd, 1) := by decide +kernel
theorem dX4_init_24 : decode cX4_init 24 = .ok (.putfield 15, 3) := by decide +kernel
theorem dX4_init_27 : decode cX4_init 27 = .ok (.aload_n 0, 1) := by decide +kernel
theorem dX4_init_28 : decode cX4_init 28 = .ok (.aload_n 0, 1) := by decide +kernel
theorem dX4_init_29 : decode cX4_init 29 = .ok (.getfield 15, 3) := by decide +kernel
theorem dX4_init_32 : decode cX4_init 32 = .ok (.iconst 2, 1) := by decide +kernel
theorem dX4_init_33 : decode cX4_init 33 = .ok (.idiv, 1) := by decide +kernel
theorem dX4_init_34 : decode cX4_init 34 = .ok (.putfield 18, 3) := by decide +kernel
theorem dX4_init_37 : decode cX4_init 37 = .ok (.aload_n 0, 1) := by decide +kernel
theorem dX4_init_38 : decode cX4_init 38 = .ok (.dup, 1) := by decide +kernel
theorem dX4_init_39 : decode cX4_init 39 = .ok (.getfield 21, 3) := by decide +kernel
theorem dX4_init_42 : decode cX4_init 42 = .ok (.iconst 3, 1) := by decide +kernel
theorem dX4_init_43 : decode cX4_init 43 = .ok (.imul, 1) := by decide +kernel
theorem dX4_init_44 : decode cX4_init 44 = .ok (.putfield 21, 3) := by decide +kernel
theorem dX4_init_47 : decode cX4_init 47 = .ok (.return_, 1) := by decide +kernel
theorem dX5_init_0 : decode cX5_init 0 = .ok (.aload_n 0, 1) := by decide +kernel
theorem dX5_init_1 : decode cX5_init 1 = .ok (.iload_n 1, 1) := by decide +kernel
theorem dX5_init_2 : decode cX5_init 2 = .ok (.iload_n 2, 1) := by decide +kernel
theorem dX5_init_3 : decode cX5_init 3 = .ok (.iload_n 3, 1) := by decide +kernel
theorem dX5_init_4 : decode cX5_init 4 = .ok (.iload 4, 2) := by decide +kernel
theorem dX5_init_6 : decode cX5_init 6 = .ok (.iload 5, 2) := by decide +kernel
theorem dX5_init_8 : decode cX5_init 8 = .ok (.invokespecial 3, 3) := by decide +kernel
theorem dX5_init_11 : decode cX5_init 11 = .ok (.aload_n 0, 1) := by decide +kernel
theorem dX5_init_12 : decode cX5_init 12 = .ok (.iconst 4, 1) := by decide +kernel
theorem dX5_init_13 : decode cX5_init 13 = .ok (.putfield 9, 3) := by decide +kernel
theorem dX5_init_16 : decode cX5_init 16 = .ok (.aload_n 0, 1) := by decide +kernel
theorem dX5_init_17 : decode cX5_init 17 = .ok (.iconst 0, 1) := by decide +kernel
theorem dX5_init_18 : decode cX5_init 18 = .ok (.putfield 15, 3) := by decide +kernel
theorem dX5_init_21 : decode cX5_init 21 = .ok (.aload_n 0, 1) := by decide +kernel
theorem dX5_init_22 : decode cX5_init 22 = .ok (.iconst 0, 1) := by decide +kernel
theorem dX5_init_23 : decode cX5_init 23 = .ok (.putfield 18, 3) := by decide +kernel
theorem dX5_init_26 : decode cX5_init 26 = .ok (.aload_n 0, 1) := by decide +kernel
theorem dX5_init_27 : decode cX5_init 27 = .ok (.iload 5, 2) := by decide +kernel
theorem dX5_init_29 : decode cX5_init 29 = .ok (.iconst 5, 1) := by decide +kernel
theorem dX5_init_30 : decode cX5_init 30 = .ok (.if_icmp .lt 7, 3) := by decide +kernel
theorem dX5_init_33 : decode cX5_init 33 = .ok (.iconst 1, 1) := by decide +kernel
theorem dX5_init_34 : decode cX5_init 34 = .ok (.goto 4, 3) := by decide +kernel
theorem dX5_init_37 : decode cX5_init 37 = .ok (.iconst 0, 1) := by decide +kernel
theorem dX5_init_38 : decode cX5_init 38 = .ok (.putfield 21, 3) := by decide +kernel
theorem dX5_init_41 : decode cX5_init 41 = .ok (.aload_n 0, 1) := by decide +kernel
theorem dX5_init_42 : decode cX5_init 42 = .ok (.dup, 1) := by decide +kernel
theorem dX5_init_43 : decode cX5_init 43 = .ok (.getfield 25, 3) := by decide +kernel
theorem dX5_init_46 : decode cX5_init 46 = .ok (.iconst 3, 1) := by decide +kernel
theorem dX5_init_47 : decode cX5_init 47 = .ok (.isub, 1) := by decide +kernel
theorem dX5_init_48 : decode cX5_init 48 = .ok (.putfield 25, 3) := by decide +kernel
theorem dX5_init_51 : decode cX5_init 51 = .ok (.return_, 1) := by decide +kernel
theorem dX6_init_0 : decode cX6_init 0 = .ok (.aload_n 0, 1) := by decide +kernel
theorem dX6_init_1 : decode cX6_init 1 = .ok (.invokespecial 5, 3) := by decide +kernel
theorem dX6_init_4 : decode cX6_init 4 = .ok (.aload_n 0, 1) := by decide +kernel
theorem dX6_init_5 : decode cX6_init 5 = .ok (.bipush 100, 2) := by decide +kernel
theorem dX6_init_7 : decode cX6_init 7 = .ok (.newarray .int, 2) := by decide +kernel
theorem dX6_init_9 : decode cX6_init 9 = .ok (.putfield 11, 3) := by decide +kernel
theorem dX6_init_12 : decode cX6_init 12 = .ok (.aload_n 0, 1) := by decide +kernel
theorem dX6_init_13 : decode cX6_init 13 = .ok (.iconst (-1), 1) := by decide +kernel
theorem dX6_init_14 : decode cX6_init 14 = .ok (.putfield 15, 3) := by decide +kernel
theorem dX6_init_17 : decode cX6_init 17 = .ok (.return_, 1) := by decide +kernel
theorem dX6_hold_0 : decode cX6_hold 0 = .ok (.aload_n 0, 1) := by decide +kernel
theorem dX6_hold_1 : decode cX6_hold 1 = .ok (.aload_n 1, 1) := by decide +kernel
theorem dX6_hold_2 : decode cX6_hold 2 = .ok (.putfield 19, 3) := by decide +kernel
theorem dX6_hold_5 : decode cX6_hold 5 = .ok (.aload_n 0, 1) := by decide +kernel
theorem dX6_hold_6 : decode cX6_hold 6 = .ok (.iconst (-1), 1) := by decide +kernel
theorem dX6_hold_7 : decode cX6_hold 7 = .ok (.putfield 15, 3) := by decide +kernel
theorem dX6_hold_10 : decode cX6_hold 10 = .ok (.aload_n 0, 1) := by decide +kernel
theorem dX6_hold_11 : decode cX6_hold 11 = .ok (.iconst 0, 1) := by decide +kernel
theorem dX6_hold_12 : decode cX6_hold 12 = .ok (.putfield 23, 3) := by decide +kernel
theorem dX6_hold_15 : decode cX6_hold 15 = .ok (.return_, 1) := by decide +kernel
theorem dX6_holdRow_0 : decode cX6_holdRow 0 = .ok (.aload_n 0, 1) := by decide +kernel
theorem dX6_holdRow_1 : decode cX6_holdRow 1 = .ok (.aconst_null, 1) := by decide +kernel
theorem dX6_holdRow_2 : decode cX6_holdRow 2 = .ok (.putfield 19, 3) := by decide +kernel
theorem dX6_holdRow_5 : decode cX6_holdRow 5 = .ok (.aload_n 0, 1) := by decide +kernel
theorem dX6_holdRow_6 : decode cX6_holdRow 6 = .ok (.iload_n 1, 1) := by decide +kernel
theorem dX6_holdRow_7 : decode cX6_holdRow 7 = .ok (.putfield 15, 3) := by decide +kernel
theorem dX6_holdRow_10 : decode cX6_holdRow 10 = .ok (.aload_n 0, 1) := by decide +kernel
theorem dX6_holdRow_11 : decode cX6_holdRow 11 = .ok (.iload_n 2, 1) := by decide +kernel
theorem dX6_holdRow_12 : decode cX6_holdRow 12 = .ok (.putfield 23, 3) := by decide +kernel
theorem dX6_holdRow_15 : decode cX6_holdRow 15 = .ok (.iconst 0, 1) := by decide +kernel
theorem dX6_holdRow_16 : decode cX6_holdRow 16 = .ok (.istore_n 3, 1) := by decide +kernel
theorem dX6_holdRow_17 : decode cX6_holdRow 17 = .ok (.iload_n 3, 1) := by decide +kernel
theorem dX6_holdRow_18 : decode cX6_holdRow 18 = .ok (.aload_n 0, 1) := by decide +kernel
theorem dX6_holdRow_19 : decode cX6_holdRow 19 = .ok (.getfield 11, 3) := by decide +kernel
theorem dX6_holdRow_22 : decode cX6_holdRow 22 = .ok (.arraylength, 1) := by decide +kernel
theorem dX6_holdRow_23 : decode cX6_holdRow 23 = .ok (.if_icmp .ge 16, 3) := by decide +kernel
theorem dX6_holdRow_26 : decode cX6_holdRow 26 = .ok (.aload_n 0, 1) := by decide +kernel
theorem dX6_holdRow_27 : decode cX6_holdRow 27 = .ok (.getfield 11, 3) := by decide +kernel
theorem dX6_holdRow_30 : decode cX6_holdRow 30 = .ok (.iload_n 3, 1) := by decide +kernel
theorem dX6_holdRow_31 : decode cX6_holdRow 31 = .ok (.iconst 0, 1) := by decide +kernel
theorem dX6_holdRow_32 : decode cX6_holdRow 32 = .ok (.iastore, 1) := by decide +kernel
theorem dX6_holdRow_33 : decode cX6_holdRow 33 = .ok (.iinc 3 1, 3) := by decide +kernel
theorem dX6_holdRow_36 : decode cX6_holdRow 36 = .ok (.goto (-19), 3) := by decide +kernel
theorem dX6_holdRow_39 : decode cX6_holdRow 39 = .ok (.return_, 1) := by decide +kernel
theorem dX6_isEmpty_0 : decode cX6_isEmpty 0 = .ok (.aload_n 0, 1) := by decide +kernel
theorem dX6_isEmpty_1 : decode cX6_isEmpty 1 = .ok (.getfield 19, 3) := by decide +kernel
theorem dX6_isEmpty_4 : decode cX6_isEmpty 4 = .ok (.ifnonnull 15, 3) := by decide +kernel
theorem dX6_isEmpty_7 : decode cX6_isEmpty 7 = .ok (.aload_n 0, 1) := by decide +kernel
theorem dX6_isEmpty_8 : decode cX6_isEmpty 8 = .ok (.getfield 15, 3) := by decide +kernel
theorem dX6_isEmpty_11 : decode cX6_isEmpty 11 = .ok (.iconst (-1), 1) := by decide +kernel
theorem dX6_isEmpty_12 : decode cX6_isEmpty 12 = .ok (.if_icmp .ne 7, 3) := by decide +kernel
theorem dX6_isEmpty_15 : decode cX6_isEmpty 15 = .ok (.iconst 1, 1) := by decide +kernel
theorem dX6_isEmpty_16 : decode cX6_isEmpty 16 = .ok (.goto 4, 3) := by decide +kernel
theorem dX6_isEmpty_19 : decode cX6_isEmpty 19 = .ok (.iconst 0, 1) := by decide +kernel
theorem dX6_isEmpty_20 : decode cX6_isEmpty 20 = .ok (.ireturn, 1) := by decide +kernel
theorem dX6_rowRefusal_0 : decode cX6_rowRefusal 0 = .ok (.aload_n 0, 1) := by decide +kernel
theorem dX6_rowRefusal_1 : decode cX6_rowRefusal 1 = .ok (.invokevirtual 26, 3) := by decide +kernel
theorem dX6_rowRefusal_4 : decode cX6_rowRefusal 4 = .ok (.ifCond .eq 8, 3) := by decide +kernel
theorem dX6_rowRefusal_7 : decode cX6_rowRefusal 7 = .ok (.bipush (-11), 2) := by decide +kernel
theorem dX6_rowRefusal_9 : decode cX6_rowRefusal 9 = .ok (.goto 17, 3) := by decide +kernel
theorem dX6_rowRefusal_12 : decode cX6_rowRefusal 12 = .ok (.aload_n 0, 1) := by decide +kernel
theorem dX6_rowRefusal_13 : decode cX6_rowRefusal 13 = .ok (.getfield 15, 3) := by decide +kernel
theorem dX6_rowRefusal_16 : decode cX6_rowRefusal 16 = .ok (.iconst (-1), 1) := by decide +kernel
theorem dX6_rowRefusal_17 : decode cX6_rowRefusal 17 = .ok (.if_icmp .ne 8, 3) := by decide +kernel
theorem dX6_rowRefusal_20 : decode cX6_rowRefusal 20 = .ok (.bipush (-12), 2) := by decide +kernel
theorem dX6_rowRefusal_22 : decode cX6_rowRefusal 22 = .ok (.goto 4, 3) := by decide +kernel
theorem dX6_rowRefusal_25 : decode cX6_rowRefusal 25 = .ok (.iconst 0, 1) := by decide +kernel
theorem dX6_rowRefusal_26 : decode cX6_rowRefusal 26 = .ok (.ireturn, 1) := by decide +kernel
theorem dX6_bytesRefusal_0 : decode cX6_bytesRefusal 0 = .ok (.aload_n 0, 1) := by decide +kernel
theorem dX6_bytesRefusal_1 : decode cX6_bytesRefusal 1 = .ok (.invokevirtual 26, 3) := by decide +kernel
theorem dX6_bytesRefusal_4 : decode cX6_bytesRefusal 4 = .ok (.ifCond .eq 8, 3) := by decide +kernel
theorem dX6_bytesRefusal_7 : decode cX6_bytesRefusal 7 = .ok (.bipush (-11), 2) := by decide +kernel
theorem dX6_bytesRefusal_9 : decode cX6_bytesRefusal 9 = .ok (.goto 16, 3) := by decide +kernel
theorem dX6_bytesRefusal_12 : decode cX6_bytesRefusal 12 = .ok (.aload_n 0, 1) := by decide +kernel
theorem dX6_bytesRefusal_13 : decode cX6_bytesRefusal 13 = .ok (.getfield 15, 3) := by decide +kernel
theorem dX6_bytesRefusal_16 : decode cX6_bytesRefusal 16 = .ok (.ifCond .eq 8, 3) := by decide +kernel
theorem dX6_bytesRefusal_19 : decode cX6_bytesRefusal 19 = .ok (.bipush (-12), 2) := by decide +kernel
theorem dX6_bytesRefusal_21 : decode cX6_bytesRefusal 21 = .ok (.goto 4, 3) := by decide +kernel
theorem dX6_bytesRefusal_24 : decode cX6_bytesRefusal 24 = .ok (.iconst 0, 1) := by decide +kernel
theorem dX6_bytesRefusal_25 : decode cX6_bytesRefusal 25 = .ok (.ireturn, 1) := by decide +kernel
theorem dX6_deedRefusal_0 : decode cX6_deedRefusal 0 = .ok (.aload_n 0, 1) := by decide +kernel
theorem dX6_deedRefusal_1 : decode cX6_deedRefusal 1 = .ok (.invokevirtual 26, 3) := by decide +kernel
theorem dX6_deedRefusal_4 : decode cX6_deedRefusal 4 = .ok (.ifCond .eq 8, 3) := by decide +kernel
theorem dX6_deedRefusal_7 : decode cX6_deedRefusal 7 = .ok (.bipush (-11), 2) := by decide +kernel
theorem dX6_deedRefusal_9 : decode cX6_deedRefusal 9 = .ok (.goto 16, 3) := by decide +kernel
theorem dX6_deedRefusal_12 : decode cX6_deedRefusal 12 = .ok (.aload_n 0, 1) := by decide +kernel
theorem dX6_deedRefusal_13 : decode cX6_deedRefusal 13 = .ok (.getfield 19, 3) := by decide +kernel
theorem dX6_deedRefusal_16 : decode cX6_deedRefusal 16 = .ok (.ifnonnull 8, 3) := by decide +kernel
theorem dX6_deedRefusal_19 : decode cX6_deedRefusal 19 = .ok (.bipush (-12), 2) := by decide +kernel
theorem dX6_deedRefusal_21 : decode cX6_deedRefusal 21 = .ok (.goto 4, 3) := by decide +kernel
theorem dX6_deedRefusal_24 : decode cX6_deedRefusal 24 = .ok (.iconst 0, 1) := by decide +kernel
theorem dX6_deedRefusal_25 : decode cX6_deedRefusal 25 = .ok (.ireturn, 1) := by decide +kernel
theorem dX6_hasPlace_0 : decode cX6_hasPlace 0 = .ok (.iload_n 1, 1) := by decide +kernel
theorem dX6_hasPlace_1 : decode cX6_hasPlace 1 = .ok (.ifCond .lt 15, 3) := by decide +kernel
theorem dX6_hasPlace_4 : decode cX6_hasPlace 4 = .ok (.iload_n 1, 1) := by decide +kernel
theorem dX6_hasPlace_5 : decode cX6_hasPlace 5 = .ok (.aload_n 0, 1) := by decide +kernel
theorem dX6_hasPlace_6 : decode cX6_hasPlace 6 = .ok (.getfield 23, 3) := by decide +kernel
theorem dX6_hasPlace_9 : decode cX6_hasPlace 9 = .ok (.if_icmp .ge 7, 3) := by decide +kernel
theorem dX6_hasPlace_12 : decode cX6_hasPlace 12 = .ok (.iconst 1, 1) := by decide +kernel
theorem dX6_hasPlace_13 : decode cX6_hasPlace 13 = .ok (.goto 4, 3) := by decide +kernel
theorem dX6_hasPlace_16 : decode cX6_hasPlace 16 = .ok (.iconst 0, 1) := by decide +kernel
theorem dX6_hasPlace_17 : decode cX6_hasPlace 17 = .ok (.ireturn, 1) := by decide +kernel
theorem dX6_hasPlaces_0 : decode cX6_hasPlaces 0 = .ok (.iload_n 1, 1) := by decide +kernel
theorem dX6_hasPlaces_1 : decode cX6_hasPlaces 1 = .ok (.ifCond .lt 29, 3) := by decide +kernel
theorem dX6_hasPlaces_4 : decode cX6_hasPlaces 4 = .ok (.iload_n 2, 1) := by decide +kernel
theorem dX6_hasPlaces_5 : decode cX6_hasPlaces 5 = .ok (.ifCond .lt 25, 3) := by decide +kernel
theorem dX6_hasPlaces_8 : decode cX6_hasPlaces 8 = .ok (.iload_n 1, 1) := by decide +kernel
theorem dX6_hasPlaces_9 : decode cX6_hasPlaces 9 = .ok (.aload_n 0, 1) := by decide +kernel
theorem dX6_hasPlaces_10 : decode cX6_hasPlaces 10 = .ok (.getfield 23, 3) := by decide +kernel
theorem dX6_hasPlaces_13 : decode cX6_hasPlaces 13 = .ok (.if_icmp .gt 17, 3) := by decide +kernel
theorem dX6_hasPlaces_16 : decode cX6_hasPlaces 16 = .ok (.iload_n 2, 1) := by decide +kernel
theorem dX6_hasPlaces_17 : decode cX6_hasPlaces 17 = .ok (.aload_n 0, 1) := by decide +kernel
theorem dX6_hasPlaces_18 : decode cX6_hasPlaces 18 = .ok (.getfield 23, 3) := by decide +kernel
theorem dX6_hasPlaces_21 : decode cX6_hasPlaces 21 = .ok (.iload_n 1, 1) := by decide +kernel
theorem dX6_hasPlaces_22 : decode cX6_hasPlaces 22 = .ok (.isub, 1) := by decide +kernel
theorem dX6_hasPlaces_23 : decode cX6_hasPlaces 23 = .ok (.if_icmp .gt 7, 3) := by decide +kernel
theorem dX6_hasPlaces_26 : decode cX6_hasPlaces 26 = .ok (.iconst 1, 1) := by decide +kernel
theorem dX6_hasPlaces_27 : decode cX6_hasPlaces 27 = .ok (.goto 4, 3) := by decide +kernel
theorem dX6_hasPlaces_30 : decode cX6_hasPlaces 30 = .ok (.iconst 0, 1) := by decide +kernel
theorem dX6_hasPlaces_31 : decode cX6_hasPlaces 31 = .ok (.ireturn, 1) := by decide +kernel
theorem dX6_read_0 : decode cX6_read 0 = .ok (.aload_n 0, 1) := by decide +kernel
theorem dX6_read_1 : decode cX6_read 1 = .ok (.iload_n 1, 1) := by decide +kernel
theorem dX6_read_2 : decode cX6_read 2 = .ok (.invokevirtual 30, 3) := by decide +kernel
theorem dX6_read_5 : decode cX6_read 5 = .ok (.ifCond .eq 14, 3) := by decide +kernel
theorem dX6_read_8 : decode cX6_read 8 = .ok (.aload_n 0, 1) := by decide +kernel
theorem dX6_read_9 : decode cX6_read 9 = .ok (.getfield 11, 3) := by decide +kernel
theorem dX6_read_12 : decode cX6_read 12 = .ok (.iload_n 1, 1) := by decide +kernel
theorem dX6_read_13 : decode cX6_read 13 = .ok (.invokestatic 34, 3) := by decide +kernel
theorem dX6_read_16 : decode cX6_read 16 = .ok (.goto 5, 3) := by decide +kernel
theorem dX6_read_19 : decode cX6_read 19 = .ok (.ldc 38, 2) := by decide +kernel
theorem dX6_read_21 : decode cX6_read 21 = .ok (.ireturn, 1) := by decide +kernel
theorem dX6_write_0 : decode cX6_write 0 = .ok (.aload_n 0, 1) := by decide +kernel
theorem dX6_write_1 : decode cX6_write 1 = .ok (.iload_n 1, 1) := by decide +kernel
theorem dX6_write_2 : decode cX6_write 2 = .ok (.invokevirtual 30, 3) := by decide +kernel
theorem dX6_write_5 : decode cX6_write 5 = .ok (.ifCond .ne 5, 3) := by decide +kernel
theorem dX6_write_8 : decode cX6_write 8 = .ok (.iconst 0, 1) := by decide +kernel
theorem dX6_write_9 : decode cX6_write 9 = .ok (.ireturn, 1) := by decide +kernel
theorem dX6_write_10 : decode cX6_write 10 = .ok (.aload_n 0, 1) := by decide +kernel
theorem dX6_write_11 : decode cX6_write 11 = .ok (.getfield 11, 3) := by decide +kernel
theorem dX6_write_14 : decode cX6_write 14 = .ok (.iload_n 1, 1) := by decide +kernel
theorem dX6_write_15 : decode cX6_write 15 = .ok (.aload_n 0, 1) := by decide +kernel
theorem dX6_write_16 : decode cX6_write 16 = .ok (.getfield 15, 3) := by decide +kernel
theorem dX6_write_19 : decode cX6_write 19 = .ok (.ifCond .ne 8, 3) := by decide +kernel
theorem dX6_write_22 : decode cX6_write 22 = .ok (.iload_n 2, 1) := by decide +kernel
theorem dX6_write_23 : decode cX6_write 23 = .ok (.i2b, 1) := by decide +kernel
theorem dX6_write_24 : decode cX6_write 24 = .ok (.goto 17, 3) := by decide +kernel
theorem dX6_write_27 : decode cX6_write 27 = .ok (.aload_n 0, 1) := by decide +kernel
theorem dX6_write_28 : decode cX6_write 28 = .ok (.getfield 15, 3) := by decide +kernel
theorem dX6_write_31 : decode cX6_write 31 = .ok (.iconst 1, 1) := by decide +kernel
theorem dX6_write_32 : decode cX6_write 32 = .ok (.if_icmp .ne 8, 3) := by decide +kernel
theorem dX6_write_35 : decode cX6_write 35 = .ok (.iload_n 2, 1) := by decide +kernel
theorem dX6_write_36 : decode cX6_write 36 = .ok (.i2s, 1) := by decide +kernel
theorem dX6_write_37 : decode cX6_write 37 = .ok (.goto 4, 3) := by decide +kernel
theorem dX6_write_40 : decode cX6_write 40 = .ok (.iload_n 2, 1) := by decide +kernel
theorem dX6_write_41 : decode cX6_write 41 = .ok (.invokestatic 39, 3) := by decide +kernel
theorem dX6_write_44 : decode cX6_write 44 = .ok (.iconst 1, 1) := by decide +kernel
theorem dX6_write_45 : decode cX6_write 45 = .ok (.ireturn, 1) := by decide +kernel
theorem dX6_leastNumber_0 : decode cX6_leastNumber 0 = .ok (.aload_n 0, 1) := by decide +kernel
theorem dX6_leastNumber_1 : decode cX6_leastNumber 1 = .ok (.getfield 15, 3) := by decide +kernel
theorem dX6_leastNumber_4 : decode cX6_leastNumber 4 = .ok (.ifCond .ne 8, 3) := by decide +kernel
theorem dX6_leastNumber_7 : decode cX6_leastNumber 7 = .ok (.bipush (-128), 2) := by decide +kernel
theorem dX6_leastNumber_9 : decode cX6_leastNumber 9 = .ok (.goto 19, 3) := by decide +kernel
theorem dX6_leastNumber_12 : decode cX6_leastNumber 12 = .ok (.aload_n 0, 1) := by decide +kernel
theorem dX6_leastNumber_13 : decode cX6_leastNumber 13 = .ok (.getfield 15, 3) := by decide +kernel
theorem dX6_leastNumber_16 : decode cX6_leastNumber 16 = .ok (.iconst 1, 1) := by decide +kernel
theorem dX6_leastNumber_17 : decode cX6_leastNumber 17 = .ok (.if_icmp .ne 9, 3) := by decide +kernel
theorem dX6_leastNumber_20 : decode cX6_leastNumber 20 = .ok (.sipush (-32768), 3) := by decide +kernel
theorem dX6_leastNumber_23 : decode cX6_leastNumber 23 = .ok (.goto 5, 3) := by decide +kernel
theorem dX6_leastNumber_26 : decode cX6_leastNumber 26 = .ok (.ldc 38, 2) := by decide +kernel
theorem dX6_leastNumber_28 : decode cX6_leastNumber 28 = .ok (.ireturn, 1) := by decide +kernel
theorem dX7_init_0 : decode cX7_init 0 = .ok (.aload_n 0, 1) := by decide +kernel
theorem dX7_init_1 : decode cX7_init 1 = .ok (.iload_n 1, 1) := by decide +kernel
theorem dX7_init_2 : decode cX7_init 2 = .ok (.iload_n 2, 1) := by decide +kernel
theorem dX7_init_3 : decode cX7_init 3 = .ok (.iload_n 3, 1) := by decide +kernel
theorem dX7_init_4 : decode cX7_init 4 = .ok (.iload 4, 2) := by decide +kernel
theorem dX7_init_6 : decode cX7_init 6 = .ok (.iload 5, 2) := by decide +kernel
theorem dX7_init_8 : decode cX7_init 8 = .ok (.invokespecial 3, 3) := by decide +kernel
theorem dX7_init_11 : decode cX7_init 11 = .ok (.aload_n 0, 1) := by decide +kernel
theorem dX7_init_12 : decode cX7_init 12 = .ok (.iconst 2, 1) := by decide +kernel
theorem dX7_init_13 : decode cX7_init 13 = .ok (.putfield 9, 3) := by decide +kernel
theorem dX7_init_16 : decode cX7_init 16 = .ok (.aload_n 0, 1) := by decide +kernel
theorem dX7_init_17 : decode cX7_init 17 = .ok (.iconst 0, 1) := by decide +kernel
theorem dX7_init_18 : decode cX7_init 18 = .ok (.putfield 15, 3) := by decide +kernel
theorem dX7_init_21 : decode cX7_init 21 = .ok (.aload_n 0, 1) := by decide +kernel
theorem dX7_init_22 : decode cX7_init 22 = .ok (.dup, 1) := by decide +kernel
theorem dX7_init_23 : decode cX7_init 23 = .ok (.getfield 18, 3) := by decide +kernel
theorem dX7_init_26 : decode cX7_init 26 = .ok (.iload 4, 2) := by decide +kernel
theorem dX7_init_28 : decode cX7_init 28 = .ok (.iadd, 1) := by decide +kernel
theorem dX7_init_29 : decode cX7_init 29 = .ok (.putfield 18, 3) := by decide +kernel
theorem dX7_init_32 : decode cX7_init 32 = .ok (.return_, 1) := by decide +kernel
theorem dX8_init_0 : decode cX8_init 0 = .ok (.aload_n 0, 1) := by decide +kernel
theorem dX8_init_1 : decode cX8_init 1 = .ok (.iload_n 1, 1) := by decide +kernel
theorem dX8_init_2 : decode cX8_init 2 = .ok (.iload_n 2, 1) := by decide +kernel
theorem dX8_init_3 : decode cX8_init 3 = .ok (.iload_n 3, 1) := by decide +kernel
theorem dX8_init_4 : decode cX8_init 4 = .ok (.iload 4, 2) := by decide +kernel
theorem dX8_init_6 : decode cX8_init 6 = .ok (.iload 5, 2) := by decide +kernel
theorem dX8_init_8 : decode cX8_init 8 = .ok (.invokespecial 3, 3) := by decide +kernel
theorem dX8_init_11 : decode cX8_init 11 = .ok (.aload_n 0, 1) := by decide +kernel
theorem dX8_init_12 : decode cX8_init 12 = .ok (.bipush 7, 2) := by decide +kernel
theorem dX8_init_14 : decode cX8_init 14 = .ok (.putfield 9, 3) := by decide +kernel
theorem dX8_init_17 : decode cX8_init 17 = .ok (.aload_n 0, 1) := by decide +kernel
theorem dX8_init_18 : decode cX8_init 18 = .ok (.dup, 1) := by decide +kernel
theorem dX8_init_19 : decode cX8_init 19 = .ok (.getfield 15, 3) := by decide +kernel
theorem dX8_init_22 : decode cX8_init 22 = .ok (.iconst 1, 1) := by decide +kernel
theorem dX8_init_23 : decode cX8_init 23 = .ok (.iload 5, 2) := by decide +kernel
theorem dX8_init_25 : decode cX8_init 25 = .ok (.ishl, 1) := by decide +kernel
theorem dX8_init_26 : decode cX8_init 26 = .ok (.ior, 1) := by decide +kernel
theorem dX8_init_27 : decode cX8_init 27 = .ok (.putfield 15, 3) := by decide +kernel
theorem dX8_init_30 : decode cX8_init 30 = .ok (.aload_n 0, 1) := by decide +kernel
theorem dX8_init_31 : decode cX8_init 31 = .ok (.dup, 1) := by decide +kernel
theorem dX8_init_32 : decode cX8_init 32 = .ok (.getfield 18, 3) := by decide +kernel
theorem dX8_init_35 : decode cX8_init 35 = .ok (.iload 5, 2) := by decide +kernel
theorem dX8_init_37 : decode cX8_init 37 = .ok (.imul, 1) := by decide +kernel
theorem dX8_init_38 : decode cX8_init 38 = .ok (.putfield 18, 3) := by decide +kernel
theorem dX8_init_41 : decode cX8_init 41 = .ok (.aload_n 0, 1) := by decide +kernel
theorem dX8_init_42 : decode cX8_init 42 = .ok (.sipush 200, 3) := by decide +kernel
theorem dX8_init_45 : decode cX8_init 45 = .ok (.aload_n 0, 1) := by decide +kernel
theorem dX8_init_46 : decode cX8_init 46 = .ok (.getfield 18, 3) := by decide +kernel
theorem dX8_init_49 : decode cX8_init 49 = .ok (.iadd, 1) := by decide +kernel
theorem dX8_init_50 : decode cX8_init 50 = .ok (.putfield 21, 3) := by decide +kernel
theorem dX8_init_53 : decode cX8_init 53 = .ok (.return_, 1) := by decide +kernel
theorem dX9_init_0 : decode cX9_init 0 = .ok (.aload_n 0, 1) := by decide +kernel
theorem dX9_init_1 : decode cX9_init 1 = .ok (.invokespecial 3, 3) := by decide +kernel
theorem dX9_init_4 : decode cX9_init 4 = .ok (.aload_n 0, 1) := by decide +kernel
theorem dX9_init_5 : decode cX9_init 5 = .ok (.bipush 8, 2) := by decide +kernel
theorem dX9_init_7 : decode cX9_init 7 = .ok (.anewarray 9, 3) := by decide +kernel
theorem dX9_init_10 : decode cX9_init 10 = .ok (.putfield 11, 3) := by decide +kernel
theorem dX9_init_13 : decode cX9_init 13 = .ok (.aload_n 0, 1) := by decide +kernel
theorem dX9_init_14 : decode cX9_init 14 = .ok (.bipush 100, 2) := by decide +kernel
theorem dX9_init_16 : decode cX9_init 16 = .ok (.putfield 17, 3) := by decide +kernel
theorem dX9_init_19 : decode cX9_init 19 = .ok (.aload_n 0, 1) := by decide +kernel
theorem dX9_init_20 : decode cX9_init 20 = .ok (.bipush 10, 2) := by decide +kernel
theorem dX9_init_22 : decode cX9_init 22 = .ok (.putfield 21, 3) := by decide +kernel
theorem dX9_init_25 : decode cX9_init 25 = .ok (.return_, 1) := by decide +kernel
theorem dX9_become_0 : decode cX9_become 0 = .ok (.iconst 0, 1) := by decide +kernel
theorem dX9_become_1 : decode cX9_become 1 = .ok (.istore_n 2, 1) := by decide +kernel
theorem dX9_become_2 : decode cX9_become 2 = .ok (.iload_n 2, 1) := by decide +kernel
theorem dX9_become_3 : decode cX9_become 3 = .ok (.aload_n 0, 1) := by decide +kernel
theorem dX9_become_4 : decode cX9_become 4 = .ok (.getfield 11, 3) := by decide +kernel
theorem dX9_become_7 : decode cX9_become 7 = .ok (.arraylength, 1) := by decide +kernel
theorem dX9_become_8 : decode cX9_become 8 = .ok (.if_icmp .ge 20, 3) := by decide +kernel
theorem dX9_become_11 : decode cX9_become 11 = .ok (.aload_n 0, 1) := by decide +kernel
theorem dX9_become_12 : decode cX9_become 12 = .ok (.getfield 11, 3) := by decide +kernel
theorem dX9_become_15 : decode cX9_become 15 = .ok (.iload_n 2, 1) := by decide +kernel
theorem dX9_become_16 : decode cX9_become 16 = .ok (.aload_n 1, 1) := by decide +kernel
theorem dX9_become_17 : decode cX9_become 17 = .ok (.iload_n 2, 1) := by decide +kernel
theorem dX9_become_18 : decode cX9_become 18 = .ok (.invokevirtual 24, 3) := by decide +kernel
theorem dX9_become_21 : decode cX9_become 21 = .ok (.aastore, 1) := by decide +kernel
theorem dX9_become_22 : decode cX9_become 22 = .ok (.iinc 2 1, 3) := by decide +kernel
theorem dX9_become_25 : decode cX9_become 25 = .ok (.goto (-23), 3) := by decide +kernel
theorem dX9_become_28 : decode cX9_become 28 = .ok (.aload_n 0, 1) := by decide +kernel
theorem dX9_become_29 : decode cX9_become 29 = .ok (.aload_n 1, 1) := by decide +kernel
theorem dX9_become_30 : decode cX9_become 30 = .ok (.getfield 28, 3) := by decide +kernel
theorem dX9_become_33 : decode cX9_become 33 = .ok (.putfield 28, 3) := by decide +kernel
theorem dX9_become_36 : decode cX9_become 36 = .ok (.aload_n 0, 1) := by decide +kernel
theorem dX9_become_37 : decode cX9_become 37 = .ok (.aload_n 1, 1) := by decide +kernel
theorem dX9_become_38 : decode cX9_become 38 = .ok (.getfield 31, 3) := by decide +kernel
theorem dX9_become_41 : decode cX9_become 41 = .ok (.putfield 31, 3) := by decide +kernel
theorem dX9_become_44 : decode cX9_become 44 = .ok (.aload_n 0, 1) := by decide +kernel
theorem dX9_become_45 : decode cX9_become 45 = .ok (.aload_n 1, 1) := by decide +kernel
theorem dX9_become_46 : decode cX9_become 46 = .ok (.getfield 17, 3) := by decide +kernel
theorem dX9_become_49 : decode cX9_become 49 = .ok (.putfield 17, 3) := by decide +kernel
theorem dX9_become_52 : decode cX9_become 52 = .ok (.aload_n 0, 1) := by decide +kernel
theorem dX9_become_53 : decode cX9_become 53 = .ok (.aload_n 1, 1) := by decide +kernel
theorem dX9_become_54 : decode cX9_become 54 = .ok (.getfield 34, 3) := by decide +kernel
theorem dX9_become_57 : decode cX9_become 57 = .ok (.putfield 34, 3) := by decide +kernel
theorem dX9_become_60 : decode cX9_become 60 = .ok (.aload_n 0, 1) := by decide +kernel
theorem dX9_become_61 : decode cX9_become 61 = .ok (.aload_n 1, 1) := by decide +kernel
theorem dX9_become_62 : decode cX9_become 62 = .ok (.getfield 21, 3) := by decide +kernel
theorem dX9_become_65 : decode cX9_become 65 = .ok (.putfield 21, 3) := by decide +kernel
theorem dX9_become_68 : decode cX9_become 68 = .ok (.aload_n 0, 1) := by decide +kernel
theorem dX9_become_69 : decode cX9_become 69 = .ok (.aload_n 1, 1) := by decide +kernel
theorem dX9_become_70 : decode cX9_become 70 = .ok (.getfield 37, 3) := by decide +kernel
theorem dX9_become_73 : decode cX9_become 73 = .ok (.putfield 37, 3) := by decide +kernel
theorem dX9_become_76 : decode cX9_become 76 = .ok (.aload_n 0, 1) := by decide +kernel
theorem dX9_become_77 : decode cX9_become 77 = .ok (.aload_n 1, 1) := by decide +kernel
theorem dX9_become_78 : decode cX9_become 78 = .ok (.getfield 40, 3) := by decide +kernel
theorem dX9_become_81 : decode cX9_become 81 = .ok (.putfield 40, 3) := by decide +kernel
theorem dX9_become_84 : decode cX9_become 84 = .ok (.return_, 1) := by decide +kernel
theorem dX9_deedAt_0 : decode cX9_deedAt 0 = .ok (.iload_n 1, 1) := by decide +kernel
theorem dX9_deedAt_1 : decode cX9_deedAt 1 = .ok (.ifCond .lt 29, 3) := by decide +kernel
theorem dX9_deedAt_4 : decode cX9_deedAt 4 = .ok (.iload_n 1, 1) := by decide +kernel
theorem dX9_deedAt_5 : decode cX9_deedAt 5 = .ok (.aload_n 0, 1) := by decide +kernel
theorem dX9_deedAt_6 : decode cX9_deedAt 6 = .ok (.getfield 28, 3) := by decide +kernel
theorem dX9_deedAt_9 : decode cX9_deedAt 9 = .ok (.if_icmp .ge 21, 3) := by decide +kernel
theorem dX9_deedAt_12 : decode cX9_deedAt 12 = .ok (.iload_n 1, 1) := by decide +kernel
theorem dX9_deedAt_13 : decode cX9_deedAt 13 = .ok (.aload_n 0, 1) := by decide +kernel
theorem dX9_deedAt_14 : decode cX9_deedAt 14 = .ok (.getfield 11, 3) := by decide +kernel
theorem dX9_deedAt_17 : decode cX9_deedAt 17 = .ok (.arraylength, 1) := by decide +kernel
theorem dX9_deedAt_18 : decode cX9_deedAt 18 = .ok (.if_icmp .ge 12, 3) := by decide +kernel
theorem dX9_deedAt_21 : decode cX9_deedAt 21 = .ok (.aload_n 0, 1) := by decide +kernel
theorem dX9_deedAt_22 : decode cX9_deedAt 22 = .ok (.getfield 11, 3) := by decide +kernel
theorem dX9_deedAt_25 : decode cX9_deedAt 25 = .ok (.iload_n 1, 1) := by decide +kernel
theorem dX9_deedAt_26 : decode cX9_deedAt 26 = .ok (.aaload, 1) := by decide +kernel
theorem dX9_deedAt_27 : decode cX9_deedAt 27 = .ok (.goto 4, 3) := by decide +kernel
theorem dX9_deedAt_30 : decode cX9_deedAt 30 = .ok (.aconst_null, 1) := by decide +kernel
theorem dX9_deedAt_31 : decode cX9_deedAt 31 = .ok (.areturn, 1) := by decide +kernel
theorem dX9_nailCost_0 : decode cX9_nailCost 0 = .ok (.aload_n 0, 1) := by decide +kernel
theorem dX9_nailCost_1 : decode cX9_nailCost 1 = .ok (.getfield 21, 3) := by decide +kernel
theorem dX9_nailCost_4 : decode cX9_nailCost 4 = .ok (.iload_n 1, 1) := by decide +kernel
theorem dX9_nailCost_5 : decode cX9_nailCost 5 = .ok (.aload_n 0, 1) := by decide +kernel
theorem dX9_nailCost_6 : decode cX9_nailCost 6 = .ok (.getfield 37, 3) := by decide +kernel
theorem dX9_nailCost_9 : decode cX9_nailCost 9 = .ok (.imul, 1) := by decide +kernel
theorem dX9_nailCost_10 : decode cX9_nailCost 10 = .ok (.iadd, 1) := by decide +kernel
theorem dX9_nailCost_11 : decode cX9_nailCost 11 = .ok (.istore_n 2, 1) := by decide +kernel
theorem dX9_nailCost_12 : decode cX9_nailCost 12 = .ok (.iload_n 2, 1) := by decide +kernel
theorem dX9_nailCost_13 : decode cX9_nailCost 13 = .ok (.ifCond .ge 7, 3) := by decide +kernel
theorem dX9_nailCost_16 : decode cX9_nailCost 16 = .ok (.iconst 0, 1) := by decide +kernel
theorem dX9_nailCost_17 : decode cX9_nailCost 17 = .ok (.goto 4, 3) := by decide +kernel
theorem dX9_nailCost_20 : decode cX9_nailCost 20 = .ok (.iload_n 2, 1) := by decide +kernel
theorem dX9_nailCost_21 : decode cX9_nailCost 21 = .ok (.ireturn, 1) := by decide +kernel
theorem dX9_changeLaw_0 : decode cX9_changeLaw 0 = .ok (.iload_n 1, 1) := by decide +kernel
theorem dX9_changeLaw_1 : decode cX9_changeLaw 1 = .ok (.ifCond .lt 8, 3) := by decide +kernel
theorem dX9_changeLaw_4 : decode cX9_changeLaw 4 = .ok (.iload_n 1, 1) := by decide +kernel
theorem dX9_changeLaw_5 : decode cX9_changeLaw 5 = .ok (.iconst 3, 1) := by decide +kernel
theorem dX9_changeLaw_6 : decode cX9_changeLaw 6 = .ok (.if_icmp .lt 5, 3) := by decide +kernel
theorem dX9_changeLaw_9 : decode cX9_changeLaw 9 = .ok (.iconst (-1), 1) := by decide +kernel
theorem dX9_changeLaw_10 : decode cX9_changeLaw 10 = .ok (.ireturn, 1) := by decide +kernel
theorem dX9_changeLaw_11 : decode cX9_changeLaw 11 = .ok (.aload_n 0, 1) := by decide +kernel
theorem dX9_changeLaw_12 : decode cX9_changeLaw 12 = .ok (.getfield 34, 3) := by decide +kernel
theorem dX9_changeLaw_15 : decode cX9_changeLaw 15 = .ok (.istore_n 2, 1) := by decide +kernel
theorem dX9_changeLaw_16 : decode cX9_changeLaw 16 = .ok (.aload_n 0, 1) := by decide +kernel
theorem dX9_changeLaw_17 : decode cX9_changeLaw 17 = .ok (.iload_n 1, 1) := by decide +kernel
theorem dX9_changeLaw_18 : decode cX9_changeLaw 18 = .ok (.putfield 34, 3) := by decide +kernel
theorem dX9_changeLaw_21 : decode cX9_changeLaw 21 = .ok (.iload_n 2, 1) := by decide +kernel
theorem dX9_changeLaw_22 : decode cX9_changeLaw 22 = .ok (.ireturn, 1) := by decide +kernel
theorem dX9_changeNail_0 : decode cX9_changeNail 0 = .ok (.iload_n 1, 1) := by decide +kernel
theorem dX9_changeNail_1 : decode cX9_changeNail 1 = .ok (.ifCond .lt 9, 3) := by decide +kernel
theorem dX9_changeNail_4 : decode cX9_changeNail 4 = .ok (.iload_n 1, 1) := by decide +kernel
theorem dX9_changeNail_5 : decode cX9_changeNail 5 = .ok (.bipush 99, 2) := by decide +kernel
theorem dX9_changeNail_7 : decode cX9_changeNail 7 = .ok (.if_icmp .le 5, 3) := by decide +kernel
theorem dX9_changeNail_10 : decode cX9_changeNail 10 = .ok (.iconst (-1), 1) := by decide +kernel
theorem dX9_changeNail_11 : decode cX9_changeNail 11 = .ok (.ireturn, 1) := by decide +kernel
theorem dX9_changeNail_12 : decode cX9_changeNail 12 = .ok (.aload_n 0, 1) := by decide +kernel
theorem dX9_changeNail_13 : decode cX9_changeNail 13 = .ok (.getfield 21, 3) := by decide +kernel
theorem dX9_changeNail_16 : decode cX9_changeNail 16 = .ok (.istore_n 2, 1) := by decide +kernel
theorem dX9_changeNail_17 : decode cX9_changeNail 17 = .ok (.aload_n 0, 1) := by decide +kernel
theorem dX9_changeNail_18 : decode cX9_changeNail 18 = .ok (.iload_n 1, 1) := by decide +kernel
theorem dX9_changeNail_19 : decode cX9_changeNail 19 = .ok (.putfield 21, 3) := by decide +kernel
theorem dX9_changeNail_22 : decode cX9_changeNail 22 = .ok (.iload_n 2, 1) := by decide +kernel
theorem dX9_changeNail_23 : decode cX9_changeNail 23 = .ok (.ireturn, 1) := by decide +kernel
theorem dX9_changeCoins_0 : decode cX9_changeCoins 0 = .ok (.iload_n 1, 1) := by decide +kernel
theorem dX9_changeCoins_1 : decode cX9_changeCoins 1 = .ok (.ifCond .lt 10, 3) := by decide +kernel
theorem dX9_changeCoins_4 : decode cX9_changeCoins 4 = .ok (.iload_n 1, 1) := by decide +kernel
theorem dX9_changeCoins_5 : decode cX9_changeCoins 5 = .ok (.sipush 9999, 3) := by decide +kernel
theorem dX9_changeCoins_8 : decode cX9_changeCoins 8 = .ok (.if_icmp .le 5, 3) := by decide +kernel
theorem dX9_changeCoins_11 : decode cX9_changeCoins 11 = .ok (.iconst (-1), 1) := by decide +kernel
theorem dX9_changeCoins_12 : decode cX9_changeCoins 12 = .ok (.ireturn, 1) := by decide +kernel
theorem dX9_changeCoins_13 : decode cX9_changeCoins 13 = .ok (.aload_n 0, 1) := by decide +kernel
theorem dX9_changeCoins_14 : decode cX9_changeCoins 14 = .ok (.getfield 17, 3) := by decide +kernel
theorem dX9_changeCoins_17 : decode cX9_changeCoins 17 = .ok (.istore_n 2, 1) := by decide +kernel
theorem dX9_changeCoins_18 : decode cX9_changeCoins 18 = .ok (.aload_n 0, 1) := by decide +kernel
theorem dX9_changeCoins_19 : decode cX9_changeCoins 19 = .ok (.iload_n 1, 1) := by decide +kernel
theorem dX9_changeCoins_20 : decode cX9_changeCoins 20 = .ok (.putfield 17, 3) := by decide +kernel
theorem dX9_changeCoins_23 : decode cX9_changeCoins 23 = .ok (.iload_n 2, 1) := by decide +kernel
theorem dX9_changeCoins_24 : decode cX9_changeCoins 24 = .ok (.ireturn, 1) := by decide +kernel
theorem dX9_read_0 : decode cX9_read 0 = .ok (.iconst 0, 1) := by decide +kernel
theorem dX9_read_1 : decode cX9_read 1 = .ok (.istore_n 2, 1) := by decide +kernel
theorem dX9_read_2 : decode cX9_read 2 = .ok (.iconst 0, 1) := by decide +kernel
theorem dX9_read_3 : decode cX9_read 3 = .ok (.istore_n 3, 1) := by decide +kernel
theorem dX9_read_4 : decode cX9_read 4 = .ok (.iload_n 2, 1) := by decide +kernel
theorem dX9_read_5 : decode cX9_read 5 = .ok (.ifCond .eq 19, 3) := by decide +kernel
theorem dX9_read_8 : decode cX9_read 8 = .ok (.iload_n 2, 1) := by decide +kernel
theorem dX9_read_9 : decode cX9_read 9 = .ok (.aload_n 1, 1) := by decide +kernel
theorem dX9_read_10 : decode cX9_read 10 = .ok (.getfield 43, 3) := by decide +kernel
theorem dX9_read_13 : decode cX9_read 13 = .ok (.if_icmp .ge 36, 3) := by decide +kernel
theorem dX9_read_16 : decode cX9_read 16 = .ok (.iload_n 3, 1) := by decide +kernel
theorem dX9_read_17 : decode cX9_read 17 = .ok (.aload_n 1, 1) := by decide +kernel
theorem dX9_read_18 : decode cX9_read 18 = .ok (.getfield 43, 3) := by decide +kernel
theorem dX9_read_21 : decode cX9_read 21 = .ok (.if_icmp .ge 28, 3) := by decide +kernel
theorem dX9_read_24 : decode cX9_read 24 = .ok (.aload_n 1, 1) := by decide +kernel
theorem dX9_read_25 : decode cX9_read 25 = .ok (.iload_n 3, 1) := by decide +kernel
theorem dX9_read_26 : decode cX9_read 26 = .ok (.invokestatic 48, 3) := by decide +kernel
theorem dX9_read_29 : decode cX9_read 29 = .ok (.istore_n 3, 1) := by decide +kernel
theorem dX9_read_30 : decode cX9_read 30 = .ok (.iload_n 3, 1) := by decide +kernel
theorem dX9_read_31 : decode cX9_read 31 = .ok (.ifCond .ge 12, 3) := by decide +kernel
theorem dX9_read_34 : decode cX9_read 34 = .ok (.sipush (-1000), 3) := by decide +kernel
theorem dX9_read_37 : decode cX9_read 37 = .ok (.iload_n 3, 1) := by decide +kernel
theorem dX9_read_38 : decode cX9_read 38 = .ok (.invokestatic 52, 3) := by decide +kernel
theorem dX9_read_41 : decode cX9_read 41 = .ok (.isub, 1) := by decide +kernel
theorem dX9_read_42 : decode cX9_read 42 = .ok (.ireturn, 1) := by decide +kernel
theorem dX9_read_43 : decode cX9_read 43 = .ok (.iinc 2 1, 3) := by decide +kernel
theorem dX9_read_46 : decode cX9_read 46 = .ok (.goto (-42), 3) := by decide +kernel
theorem dX9_read_49 : decode cX9_read 49 = .ok (.iconst 0, 1) := by decide +kernel
theorem dX9_read_50 : decode cX9_read 50 = .ok (.istore_n 3, 1) := by decide +kernel
theorem dX9_read_51 : decode cX9_read 51 = .ok (.iconst 0, 1) := by decide +kernel
theorem dX9_read_52 : decode cX9_read 52 = .ok (.istore 4, 2) := by decide +kernel
theorem dX9_read_54 : decode cX9_read 54 = .ok (.iload 4, 2) := by decide +kernel
theorem dX9_read_56 : decode cX9_read 56 = .ok (.iload_n 2, 1) := by decide +kernel
theorem dX9_read_57 : decode cX9_read 57 = .ok (.if_icmp .ge 30, 3) := by decide +kernel
theorem dX9_read_60 : decode cX9_read 60 = .ok (.aload_n 0, 1) := by decide +kernel
theorem dX9_read_61 : decode cX9_read 61 = .ok (.aload_n 1, 1) := by decide +kernel
theorem dX9_read_62 : decode cX9_read 62 = .ok (.iload_n 3, 1) := by decide +kernel
theorem dX9_read_63 : decode cX9_read 63 = .ok (.invokevirtual 56, 3) := by decide +kernel
theorem dX9_read_66 : decode cX9_read 66 = .ok (.ifCond .ne 9, 3) := by decide +kernel
theorem dX9_read_69 : decode cX9_read 69 = .ok (.sipush (-2000), 3) := by decide +kernel
theorem dX9_read_72 : decode cX9_read 72 = .ok (.iload_n 3, 1) := by decide +kernel
theorem dX9_read_73 : decode cX9_read 73 = .ok (.isub, 1) := by decide +kernel
theorem dX9_read_74 : decode cX9_read 74 = .ok (.ireturn, 1) := by decide +kernel
theorem dX9_read_75 : decode cX9_read 75 = .ok (.aload_n 1, 1) := by decide +kernel
theorem dX9_read_76 : decode cX9_read 76 = .ok (.iload_n 3, 1) := by decide +kernel
theorem dX9_read_77 : decode cX9_read 77 = .ok (.invokestatic 48, 3) := by decide +kernel
theorem dX9_read_80 : decode cX9_read 80 = .ok (.istore_n 3, 1) := by decide +kernel
theorem dX9_read_81 : decode cX9_read 81 = .ok (.iinc 4 1, 3) := by decide +kernel
theorem dX9_read_84 : decode cX9_read 84 = .ok (.goto (-30), 3) := by decide +kernel
theorem dX9_read_87 : decode cX9_read 87 = .ok (.iload_n 2, 1) := by decide +kernel
theorem dX9_read_88 : decode cX9_read 88 = .ok (.ireturn, 1) := by decide +kernel
theorem dX9_wrongAt_0 : decode cX9_wrongAt 0 = .ok (.iconst (-1), 1) := by decide +kernel
theorem dX9_wrongAt_1 : decode cX9_wrongAt 1 = .ok (.iload_n 0, 1) := by decide +kernel
theorem dX9_wrongAt_2 : decode cX9_wrongAt 2 = .ok (.isub, 1) := by decide +kernel
theorem dX9_wrongAt_3 : decode cX9_wrongAt 3 = .ok (.ireturn, 1) := by decide +kernel
theorem dX9_faultAt_0 : decode cX9_faultAt 0 = .ok (.iconst (-1), 1) := by decide +kernel
theorem dX9_faultAt_1 : decode cX9_faultAt 1 = .ok (.iload_n 0, 1) := by decide +kernel
theorem dX9_faultAt_2 : decode cX9_faultAt 2 = .ok (.isub, 1) := by decide +kernel
theorem dX9_faultAt_3 : decode cX9_faultAt 3 = .ok (.ireturn, 1) := by decide +kernel
theorem dX9_behindStatement_0 : decode cX9_behindStatement 0 = .ok (.aload_n 0, 1) := by decide +kernel
theorem dX9_behindStatement_1 : decode cX9_behindStatement 1 = .ok (.iload_n 1, 1) := by decide +kernel
theorem dX9_behindStatement_2 : decode cX9_behindStatement 2 = .ok (.invokevirtual 60, 3) := by decide +kernel
theorem dX9_behindStatement_5 : decode cX9_behindStatement 5 = .ok (.tableswitch 119 99 110 #[85, 63, 119, 119, 119, 119, 119, 119, 119, 108, 74, 97], 63) := by decide +kernel
theorem dX9_behindStatement_68 : decode cX9_behindStatement 68 = .ok (.aload_n 0, 1) := by decide +kernel
theorem dX9_behindStatement_69 : decode cX9_behindStatement 69 = .ok (.iload_n 1, 1) := by decide +kernel
theorem dX9_behindStatement_70 : decode cX9_behindStatement 70 = .ok (.iconst 1, 1) := by decide +kernel
theorem dX9_behindStatement_71 : decode cX9_behindStatement 71 = .ok (.iadd, 1) := by decide +kernel
theorem dX9_behindStatement_72 : decode cX9_behindStatement 72 = .ok (.invokestatic 63, 3) := by decide +kernel
theorem dX9_behindStatement_75 : decode cX9_behindStatement 75 = .ok (.istore_n 2, 1) := by decide +kernel
theorem dX9_behindStatement_76 : decode cX9_behindStatement 76 = .ok (.goto 53, 3) := by decide +kernel
theorem dX9_behindStatement_79 : decode cX9_behindStatement 79 = .ok (.aload_n 0, 1) := by decide +kernel
theorem dX9_behindStatement_80 : decode cX9_behindStatement 80 = .ok (.iload_n 1, 1) := by decide +kernel
theorem dX9_behindStatement_81 : decode cX9_behindStatement 81 = .ok (.iconst 1, 1) := by decide +kernel
theorem dX9_behindStatement_82 : decode cX9_behindStatement 82 = .ok (.iadd, 1) := by decide +kernel
theorem dX9_behindStatement_83 : decode cX9_behindStatement 83 = .ok (.invokestatic 66, 3) := by decide +kernel
theorem dX9_behindStatement_86 : decode cX9_behindStatement 86 = .ok (.istore_n 2, 1) := by decide +kernel
theorem dX9_behindStatement_87 : decode cX9_behindStatement 87 = .ok (.goto 42, 3) := by decide +kernel
theorem dX9_behindStatement_90 : decode cX9_behindStatement 90 = .ok (.aload_n 0, 1) := by decide +kernel
theorem dX9_behindStatement_91 : decode cX9_behindStatement 91 = .ok (.iload_n 1, 1) := by decide +kernel
theorem dX9_behindStatement_92 : decode cX9_behindStatement 92 = .ok (.iconst 1, 1) := by decide +kernel
theorem dX9_behindStatement_93 : decode cX9_behindStatement 93 = .ok (.iadd, 1) := by decide +kernel
theorem dX9_behindStatement_94 : decode cX9_behindStatement 94 = .ok (.iconst 4, 1) := by decide +kernel
theorem dX9_behindStatement_95 : decode cX9_behindStatement 95 = .ok (.invokestatic 69, 3) := by decide +kernel
theorem dX9_behindStatement_98 : decode cX9_behindStatement 98 = .ok (.istore_n 2, 1) := by decide +kernel
theorem dX9_behindStatement_99 : decode cX9_behindStatement 99 = .ok (.goto 30, 3) := by decide +kernel
theorem dX9_behindStatement_102 : decode cX9_behindStatement 102 = .ok (.aload_n 0, 1) := by decide +kernel
theorem dX9_behindStatement_103 : decode cX9_behindStatement 103 = .ok (.iload_n 1, 1) := by decide +kernel
theorem dX9_behindStatement_104 : decode cX9_behindStatement 104 = .ok (.iconst 1, 1) := by decide +kernel
theorem dX9_behindStatement_105 : decode cX9_behindStatement 105 = .ok (.iadd, 1) := by decide +kernel
theorem dX9_behindStatement_106 : decode cX9_behindStatement 106 = .ok (.invokestatic 73, 3) := by decide +kernel
theorem dX9_behindStatement_109 : decode cX9_behindStatement 109 = .ok (.istore_n 2, 1) := by decide +kernel
theorem dX9_behindStatement_110 : decode cX9_behindStatement 110 = .ok (.goto 19, 3) := by decide +kernel
theorem dX9_behindStatement_113 : decode cX9_behindStatement 113 = .ok (.aload_n 0, 1) := by decide +kernel
theorem dX9_behindStatement_114 : decode cX9_behindStatement 114 = .ok (.iload_n 1, 1) := by decide +kernel
theorem dX9_behindStatement_115 : decode cX9_behindStatement 115 = .ok (.iconst 1, 1) := by decide +kernel
theorem dX9_behindStatement_116 : decode cX9_behindStatement 116 = .ok (.iadd, 1) := by decide +kernel
theorem dX9_behindStatement_117 : decode cX9_behindStatement 117 = .ok (.invokestatic 76, 3) := by decide +kernel
theorem dX9_behindStatement_120 : decode cX9_behindStatement 120 = .ok (.istore_n 2, 1) := by decide +kernel
theorem dX9_behindStatement_121 : decode cX9_behindStatement 121 = .ok (.goto 8, 3) := by decide +kernel
theorem dX9_behindStatement_124 : decode cX9_behindStatement 124 = .ok (.iload_n 1, 1) := by decide +kernel
theorem dX9_behindStatement_125 : decode cX9_behindStatement 125 = .ok (.invokestatic 79, 3) := by decide +kernel
theorem dX9_behindStatement_128 : decode cX9_behindStatement 128 = .ok (.ireturn, 1) := by decide +kernel
theorem dX9_behindStatement_129 : decode cX9_behindStatement 129 = .ok (.aload_n 0, 1) := by decide +kernel
theorem dX9_behindStatement_130 : decode cX9_behindStatement 130 = .ok (.iload_n 2, 1) := by decide +kernel
theorem dX9_behindStatement_131 : decode cX9_behindStatement 131 = .ok (.bipush 59, 2) := by decide +kernel
theorem dX9_behindStatement_133 : decode cX9_behindStatement 133 = .ok (.invokestatic 82, 3) := by decide +kernel
theorem dX9_behindStatement_136 : decode cX9_behindStatement 136 = .ok (.ireturn, 1) := by decide +kernel
theorem dX9_behindDeed_0 : decode cX9_behindDeed 0 = .ok (.aload_n 0, 1) := by decide +kernel
theorem dX9_behindDeed_1 : decode cX9_behindDeed 1 = .ok (.aload_n 0, 1) := by decide +kernel
theorem dX9_behindDeed_2 : decode cX9_behindDeed 2 = .ok (.iload_n 1, 1) := by decide +kernel
theorem dX9_behindDeed_3 : decode cX9_behindDeed 3 = .ok (.invokestatic 76, 3) := by decide +kernel
theorem dX9_behindDeed_6 : decode cX9_behindDeed 6 = .ok (.invokestatic 85, 3) := by decide +kernel
theorem dX9_behindDeed_9 : decode cX9_behindDeed 9 = .ok (.istore_n 2, 1) := by decide +kernel
theorem dX9_behindDeed_10 : decode cX9_behindDeed 10 = .ok (.aload_n 0, 1) := by decide +kernel
theorem dX9_behindDeed_11 : decode cX9_behindDeed 11 = .ok (.aload_n 0, 1) := by decide +kernel
theorem dX9_behindDeed_12 : decode cX9_behindDeed 12 = .ok (.iload_n 2, 1) := by decide +kernel
theorem dX9_behindDeed_13 : decode cX9_behindDeed 13 = .ok (.bipush 32, 2) := by decide +kernel
theorem dX9_behindDeed_15 : decode cX9_behindDeed 15 = .ok (.invokestatic 82, 3) := by decide +kernel
theorem dX9_behindDeed_18 : decode cX9_behindDeed 18 = .ok (.invokestatic 66, 3) := by decide +kernel
theorem dX9_behindDeed_21 : decode cX9_behindDeed 21 = .ok (.istore_n 2, 1) := by decide +kernel
theorem dX9_behindDeed_22 : decode cX9_behindDeed 22 = .ok (.aload_n 0, 1) := by decide +kernel
theorem dX9_behindDeed_23 : decode cX9_behindDeed 23 = .ok (.aload_n 0, 1) := by decide +kernel
theorem dX9_behindDeed_24 : decode cX9_behindDeed 24 = .ok (.iload_n 2, 1) := by decide +kernel
theorem dX9_behindDeed_25 : decode cX9_behindDeed 25 = .ok (.iconst 2, 1) := by decide +kernel
theorem dX9_behindDeed_26 : decode cX9_behindDeed 26 = .ok (.invokestatic 69, 3) := by decide +kernel
theorem dX9_behindDeed_29 : decode cX9_behindDeed 29 = .ok (.bipush 32, 2) := by decide +kernel
theorem dX9_behindDeed_31 : decode cX9_behindDeed 31 = .ok (.invokestatic 82, 3) := by decide +kernel
theorem dX9_behindDeed_34 : decode cX9_behindDeed 34 = .ok (.istore_n 2, 1) := by decide +kernel
theorem dX9_behindDeed_35 : decode cX9_behindDeed 35 = .ok (.aload_n 0, 1) := by decide +kernel
theorem dX9_behindDeed_36 : decode cX9_behindDeed 36 = .ok (.iload_n 2, 1) := by decide +kernel
theorem dX9_behindDeed_37 : decode cX9_behindDeed 37 = .ok (.invokestatic 76, 3) := by decide +kernel
theorem dX9_behindDeed_40 : decode cX9_behindDeed 40 = .ok (.ireturn, 1) := by decide +kernel
theorem dX9_behindNail_0 : decode cX9_behindNail 0 = .ok (.aload_n 0, 1) := by decide +kernel
theorem dX9_behindNail_1 : decode cX9_behindNail 1 = .ok (.aload_n 0, 1) := by decide +kernel
theorem dX9_behindNail_2 : decode cX9_behindNail 2 = .ok (.iload_n 1, 1) := by decide +kernel
theorem dX9_behindNail_3 : decode cX9_behindNail 3 = .ok (.iconst 2, 1) := by decide +kernel
theorem dX9_behindNail_4 : decode cX9_behindNail 4 = .ok (.invokestatic 69, 3) := by decide +kernel
theorem dX9_behindNail_7 : decode cX9_behindNail 7 = .ok (.bipush 32, 2) := by decide +kernel
theorem dX9_behindNail_9 : decode cX9_behindNail 9 = .ok (.invokestatic 82, 3) := by decide +kernel
theorem dX9_behindNail_12 : decode cX9_behindNail 12 = .ok (.istore_n 2, 1) := by decide +kernel
theorem dX9_behindNail_13 : decode cX9_behindNail 13 = .ok (.iload_n 2, 1) := by decide +kernel
theorem dX9_behindNail_14 : decode cX9_behindNail 14 = .ok (.ifCond .lt 21, 3) := by decide +kernel
theorem dX9_behindNail_17 : decode cX9_behindNail 17 = .ok (.aload_n 0, 1) := by decide +kernel
theorem dX9_behindNail_18 : decode cX9_behindNail 18 = .ok (.iload_n 2, 1) := by decide +kernel
theorem dX9_behindNail_19 : decode cX9_behindNail 19 = .ok (.invokevirtual 60, 3) := by decide +kernel
theorem dX9_behindNail_22 : decode cX9_behindNail 22 = .ok (.bipush 45, 2) := by decide +kernel
theorem dX9_behindNail_24 : decode cX9_behindNail 24 = .ok (.if_icmp .ne 11, 3) := by decide +kernel
theorem dX9_behindNail_27 : decode cX9_behindNail 27 = .ok (.aload_n 0, 1) := by decide +kernel
theorem dX9_behindNail_28 : decode cX9_behindNail 28 = .ok (.iload_n 2, 1) := by decide +kernel
theorem dX9_behindNail_29 : decode cX9_behindNail 29 = .ok (.iconst 1, 1) := by decide +kernel
theorem dX9_behindNail_30 : decode cX9_behindNail 30 = .ok (.iadd, 1) := by decide +kernel
theorem dX9_behindNail_31 : decode cX9_behindNail 31 = .ok (.invokestatic 76, 3) := by decide +kernel
theorem dX9_behindNail_34 : decode cX9_behindNail 34 = .ok (.ireturn, 1) := by decide +kernel
theorem dX9_behindNail_35 : decode cX9_behindNail 35 = .ok (.aload_n 0, 1) := by decide +kernel
theorem dX9_behindNail_36 : decode cX9_behindNail 36 = .ok (.aload_n 0, 1) := by decide +kernel
theorem dX9_behindNail_37 : decode cX9_behindNail 37 = .ok (.iload_n 2, 1) := by decide +kernel
theorem dX9_behindNail_38 : decode cX9_behindNail 38 = .ok (.bipush 43, 2) := by decide +kernel
theorem dX9_behindNail_40 : decode cX9_behindNail 40 = .ok (.invokestatic 82, 3) := by decide +kernel
theorem dX9_behindNail_43 : decode cX9_behindNail 43 = .ok (.invokestatic 76, 3) := by decide +kernel
theorem dX9_behindNail_46 : decode cX9_behindNail 46 = .ok (.ireturn, 1) := by decide +kernel
theorem dX9_behindSign_0 : decode cX9_behindSign 0 = .ok (.iload_n 1, 1) := by decide +kernel
theorem dX9_behindSign_1 : decode cX9_behindSign 1 = .ok (.ifCond .ge 5, 3) := by decide +kernel
theorem dX9_behindSign_4 : decode cX9_behindSign 4 = .ok (.iload_n 1, 1) := by decide +kernel
theorem dX9_behindSign_5 : decode cX9_behindSign 5 = .ok (.ireturn, 1) := by decide +kernel
theorem dX9_behindSign_6 : decode cX9_behindSign 6 = .ok (.aload_n 0, 1) := by decide +kernel
theorem dX9_behindSign_7 : decode cX9_behindSign 7 = .ok (.iload_n 1, 1) := by decide +kernel
theorem dX9_behindSign_8 : decode cX9_behindSign 8 = .ok (.invokevirtual 60, 3) := by decide +kernel
theorem dX9_behindSign_11 : decode cX9_behindSign 11 = .ok (.iload_n 2, 1) := by decide +kernel
theorem dX9_behindSign_12 : decode cX9_behindSign 12 = .ok (.if_icmp .ne 9, 3) := by decide +kernel
theorem dX9_behindSign_15 : decode cX9_behindSign 15 = .ok (.iload_n 1, 1) := by decide +kernel
theorem dX9_behindSign_16 : decode cX9_behindSign 16 = .ok (.iconst 1, 1) := by decide +kernel
theorem dX9_behindSign_17 : decode cX9_behindSign 17 = .ok (.iadd, 1) := by decide +kernel
theorem dX9_behindSign_18 : decode cX9_behindSign 18 = .ok (.goto 7, 3) := by decide +kernel
theorem dX9_behindSign_21 : decode cX9_behindSign 21 = .ok (.iload_n 1, 1) := by decide +kernel
theorem dX9_behindSign_22 : decode cX9_behindSign 22 = .ok (.invokestatic 79, 3) := by decide +kernel
theorem dX9_behindSign_25 : decode cX9_behindSign 25 = .ok (.ireturn, 1) := by decide +kernel
theorem dX9_behindDigit_0 : decode cX9_behindDigit 0 = .ok (.iload_n 1, 1) := by decide +kernel
theorem dX9_behindDigit_1 : decode cX9_behindDigit 1 = .ok (.ifCond .ge 5, 3) := by decide +kernel
theorem dX9_behindDigit_4 : decode cX9_behindDigit 4 = .ok (.iload_n 1, 1) := by decide +kernel
theorem dX9_behindDigit_5 : decode cX9_behindDigit 5 = .ok (.ireturn, 1) := by decide +kernel
theorem dX9_behindDigit_6 : decode cX9_behindDigit 6 = .ok (.aload_n 0, 1) := by decide +kernel
theorem dX9_behindDigit_7 : decode cX9_behindDigit 7 = .ok (.iload_n 1, 1) := by decide +kernel
theorem dX9_behindDigit_8 : decode cX9_behindDigit 8 = .ok (.invokevirtual 60, 3) := by decide +kernel
theorem dX9_behindDigit_11 : decode cX9_behindDigit 11 = .ok (.invokestatic 88, 3) := by decide +kernel
theorem dX9_behindDigit_14 : decode cX9_behindDigit 14 = .ok (.ifCond .eq 9, 3) := by decide +kernel
theorem dX9_behindDigit_17 : decode cX9_behindDigit 17 = .ok (.iload_n 1, 1) := by decide +kernel
theorem dX9_behindDigit_18 : decode cX9_behindDigit 18 = .ok (.iconst 1, 1) := by decide +kernel
theorem dX9_behindDigit_19 : decode cX9_behindDigit 19 = .ok (.iadd, 1) := by decide +kernel
theorem dX9_behindDigit_20 : decode cX9_behindDigit 20 = .ok (.goto 7, 3) := by decide +kernel
theorem dX9_behindDigit_23 : decode cX9_behindDigit 23 = .ok (.iload_n 1, 1) := by decide +kernel
theorem dX9_behindDigit_24 : decode cX9_behindDigit 24 = .ok (.invokestatic 79, 3) := by decide +kernel
theorem dX9_behindDigit_27 : decode cX9_behindDigit 27 = .ok (.ireturn, 1) := by decide +kernel
theorem dX9_behindLetter_0 : decode cX9_behindLetter 0 = .ok (.iload_n 1, 1) := by decide +kernel
theorem dX9_behindLetter_1 : decode cX9_behindLetter 1 = .ok (.ifCond .ge 5, 3) := by decide +kernel
theorem dX9_behindLetter_4 : decode cX9_behindLetter 4 = .ok (.iload_n 1, 1) := by decide +kernel
theorem dX9_behindLetter_5 : decode cX9_behindLetter 5 = .ok (.ireturn, 1) := by decide +kernel
theorem dX9_behindLetter_6 : decode cX9_behindLetter 6 = .ok (.aload_n 0, 1) := by decide +kernel
theorem dX9_behindLetter_7 : decode cX9_behindLetter 7 = .ok (.iload_n 1, 1) := by decide +kernel
theorem dX9_behindLetter_8 : decode cX9_behindLetter 8 = .ok (.invokevirtual 60, 3) := by decide +kernel
theorem dX9_behindLetter_11 : decode cX9_behindLetter 11 = .ok (.invokestatic 92, 3) := by decide +kernel
theorem dX9_behindLetter_14 : decode cX9_behindLetter 14 = .ok (.ifCond .eq 9, 3) := by decide +kernel
theorem dX9_behindLetter_17 : decode cX9_behindLetter 17 = .ok (.iload_n 1, 1) := by decide +kernel
theorem dX9_behindLetter_18 : decode cX9_behindLetter 18 = .ok (.iconst 1, 1) := by decide +kernel
theorem dX9_behindLetter_19 : decode cX9_behindLetter 19 = .ok (.iadd, 1) := by decide +kernel
theorem dX9_behindLetter_20 : decode cX9_behindLetter 20 = .ok (.goto 7, 3) := by decide +kernel
theorem dX9_behindLetter_23 : decode cX9_behindLetter 23 = .ok (.iload_n 1, 1) := by decide +kernel
theorem dX9_behindLetter_24 : decode cX9_behindLetter 24 = .ok (.invokestatic 79, 3) := by decide +kernel
theorem dX9_behindLetter_27 : decode cX9_behindLetter 27 = .ok (.ireturn, 1) := by decide +kernel
theorem dX9_behindNeeds_0 : decode cX9_behindNeeds 0 = .ok (.iload_n 1, 1) := by decide +kernel
theorem dX9_behindNeeds_1 : decode cX9_behindNeeds 1 = .ok (.istore_n 2, 1) := by decide +kernel
theorem dX9_behindNeeds_2 : decode cX9_behindNeeds 2 = .ok (.iconst 0, 1) := by decide +kernel
theorem dX9_behindNeeds_3 : decode cX9_behindNeeds 3 = .ok (.istore_n 3, 1) := by decide +kernel
theorem dX9_behindNeeds_4 : decode cX9_behindNeeds 4 = .ok (.iconst 0, 1) := by decide +kernel
theorem dX9_behindNeeds_5 : decode cX9_behindNeeds 5 = .ok (.istore 4, 2) := by decide +kernel
theorem dX9_behindNeeds_7 : decode cX9_behindNeeds 7 = .ok (.iload 4, 2) := by decide +kernel
theorem dX9_behindNeeds_9 : decode cX9_behindNeeds 9 = .ok (.bipush 10, 2) := by decide +kernel
theorem dX9_behindNeeds_11 : decode cX9_behindNeeds 11 = .ok (.if_icmp .ge 38, 3) := by decide +kernel
theorem dX9_behindNeeds_14 : decode cX9_behindNeeds 14 = .ok (.aload_n 0, 1) := by decide +kernel
theorem dX9_behindNeeds_15 : decode cX9_behindNeeds 15 = .ok (.iload_n 2, 1) := by decide +kernel
theorem dX9_behindNeeds_16 : decode cX9_behindNeeds 16 = .ok (.invokevirtual 60, 3) := by decide +kernel
theorem dX9_behindNeeds_19 : decode cX9_behindNeeds 19 = .ok (.invokestatic 92, 3) := by decide +kernel
theorem dX9_behindNeeds_22 : decode cX9_behindNeeds 22 = .ok (.ifCond .eq 27, 3) := by decide +kernel
theorem dX9_behindNeeds_25 : decode cX9_behindNeeds 25 = .ok (.aload_n 0, 1) := by decide +kernel
theorem dX9_behindNeeds_26 : decode cX9_behindNeeds 26 = .ok (.iload_n 2, 1) := by decide +kernel
theorem dX9_behindNeeds_27 : decode cX9_behindNeeds 27 = .ok (.invokevirtual 60, 3) := by decide +kernel
theorem dX9_behindNeeds_30 : decode cX9_behindNeeds 30 = .ok (.iload_n 3, 1) := by decide +kernel
theorem dX9_behindNeeds_31 : decode cX9_behindNeeds 31 = .ok (.if_icmp .le 18, 3) := by decide +kernel
theorem dX9_behindNeeds_34 : decode cX9_behindNeeds 34 = .ok (.aload_n 0, 1) := by decide +kernel
theorem dX9_behindNeeds_35 : decode cX9_behindNeeds 35 = .ok (.iload_n 2, 1) := by decide +kernel
theorem dX9_behindNeeds_36 : decode cX9_behindNeeds 36 = .ok (.invokevirtual 60, 3) := by decide +kernel
theorem dX9_behindNeeds_39 : decode cX9_behindNeeds 39 = .ok (.istore_n 3, 1) := by decide +kernel
theorem dX9_behindNeeds_40 : decode cX9_behindNeeds 40 = .ok (.iinc 2 1, 3) := by decide +kernel
theorem dX9_behindNeeds_43 : decode cX9_behindNeeds 43 = .ok (.iinc 4 1, 3) := by decide +kernel
theorem dX9_behindNeeds_46 : decode cX9_behindNeeds 46 = .ok (.goto (-39), 3) := by decide +kernel
theorem dX9_behindNeeds_49 : decode cX9_behindNeeds 49 = .ok (.iload_n 2, 1) := by decide +kernel
theorem dX9_behindNeeds_50 : decode cX9_behindNeeds 50 = .ok (.ireturn, 1) := by decide +kernel
theorem dX9_behindNumber_0 : decode cX9_behindNumber 0 = .ok (.aload_n 0, 1) := by decide +kernel
theorem dX9_behindNumber_1 : decode cX9_behindNumber 1 = .ok (.iload_n 1, 1) := by decide +kernel
theorem dX9_behindNumber_2 : decode cX9_behindNumber 2 = .ok (.invokestatic 76, 3) := by decide +kernel
theorem dX9_behindNumber_5 : decode cX9_behindNumber 5 = .ok (.istore_n 3, 1) := by decide +kernel
theorem dX9_behindNumber_6 : decode cX9_behindNumber 6 = .ok (.iload_n 3, 1) := by decide +kernel
theorem dX9_behindNumber_7 : decode cX9_behindNumber 7 = .ok (.ifCond .lt 13, 3) := by decide +kernel
theorem dX9_behindNumber_10 : decode cX9_behindNumber 10 = .ok (.aload_n 0, 1) := by decide +kernel
theorem dX9_behindNumber_11 : decode cX9_behindNumber 11 = .ok (.iload_n 1, 1) := by decide +kernel
theorem dX9_behindNumber_12 : decode cX9_behindNumber 12 = .ok (.invokevirtual 60, 3) := by decide +kernel
theorem dX9_behindNumber_15 : decode cX9_behindNumber 15 = .ok (.bipush 48, 2) := by decide +kernel
theorem dX9_behindNumber_17 : decode cX9_behindNumber 17 = .ok (.if_icmp .ne 5, 3) := by decide +kernel
theorem dX9_behindNumber_20 : decode cX9_behindNumber 20 = .ok (.iload_n 3, 1) := by decide +kernel
theorem dX9_behindNumber_21 : decode cX9_behindNumber 21 = .ok (.ireturn, 1) := by decide +kernel
theorem dX9_behindNumber_22 : decode cX9_behindNumber 22 = .ok (.iconst 1, 1) := by decide +kernel
theorem dX9_behindNumber_23 : decode cX9_behindNumber 23 = .ok (.istore 4, 2) := by decide +kernel
theorem dX9_behindNumber_25 : decode cX9_behindNumber 25 = .ok (.iload 4, 2) := by decide +kernel
theorem dX9_behindNumber_27 : decode cX9_behindNumber 27 = .ok (.iload_n 2, 1) := by decide +kernel
theorem dX9_behindNumber_28 : decode cX9_behindNumber 28 = .ok (.if_icmp .ge 23, 3) := by decide +kernel
theorem dX9_behindNumber_31 : decode cX9_behindNumber 31 = .ok (.aload_n 0, 1) := by decide +kernel
theorem dX9_behindNumber_32 : decode cX9_behindNumber 32 = .ok (.iload_n 3, 1) := by decide +kernel
theorem dX9_behindNumber_33 : decode cX9_behindNumber 33 = .ok (.invokevirtual 60, 3) := by decide +kernel
theorem dX9_behindNumber_36 : decode cX9_behindNumber 36 = .ok (.invokestatic 88, 3) := by decide +kernel
theorem dX9_behindNumber_39 : decode cX9_behindNumber 39 = .ok (.ifCond .eq 12, 3) := by decide +kernel
theorem dX9_behindNumber_42 : decode cX9_behindNumber 42 = .ok (.iinc 3 1, 3) := by decide +kernel
theorem dX9_behindNumber_45 : decode cX9_behindNumber 45 = .ok (.iinc 4 1, 3) := by decide +kernel
theorem dX9_behindNumber_48 : decode cX9_behindNumber 48 = .ok (.goto (-23), 3) := by decide +kernel
theorem dX9_behindNumber_51 : decode cX9_behindNumber 51 = .ok (.iload_n 3, 1) := by decide +kernel
theorem dX9_behindNumber_52 : decode cX9_behindNumber 52 = .ok (.ireturn, 1) := by decide +kernel
theorem dX9_isDigit_0 : decode cX9_isDigit 0 = .ok (.iload_n 0, 1) := by decide +kernel
theorem dX9_isDigit_1 : decode cX9_isDigit 1 = .ok (.bipush 48, 2) := by decide +kernel
theorem dX9_isDigit_3 : decode cX9_isDigit 3 = .ok (.if_icmp .lt 13, 3) := by decide +kernel
theorem dX9_isDigit_6 : decode cX9_isDigit 6 = .ok (.iload_n 0, 1) := by decide +kernel
theorem dX9_isDigit_7 : decode cX9_isDigit 7 = .ok (.bipush 57, 2) := by decide +kernel
theorem dX9_isDigit_9 : decode cX9_isDigit 9 = .ok (.if_icmp .gt 7, 3) := by decide +kernel
theorem dX9_isDigit_12 : decode cX9_isDigit 12 = .ok (.iconst 1, 1) := by decide +kernel
theorem dX9_isDigit_13 : decode cX9_isDigit 13 = .ok (.goto 4, 3) := by decide +kernel
theorem dX9_isDigit_16 : decode cX9_isDigit 16 = .ok (.iconst 0, 1) := by decide +kernel
theorem dX9_isDigit_17 : decode cX9_isDigit 17 = .ok (.ireturn, 1) := by decide +kernel
theorem dX9_isLetter_0 : decode cX9_isLetter 0 = .ok (.iload_n 0, 1) := by decide +kernel
theorem dX9_isLetter_1 : decode cX9_isLetter 1 = .ok (.bipush 97, 2) := by decide +kernel
theorem dX9_isLetter_3 : decode cX9_isLetter 3 = .ok (.if_icmp .lt 13, 3) := by decide +kernel
theorem dX9_isLetter_6 : decode cX9_isLetter 6 = .ok (.iload_n 0, 1) := by decide +kernel
theorem dX9_isLetter_7 : decode cX9_isLetter 7 = .ok (.bipush 106, 2) := by decide +kernel
theorem dX9_isLetter_9 : decode cX9_isLetter 9 = .ok (.if_icmp .gt 7, 3) := by decide +kernel
theorem dX9_isLetter_12 : decode cX9_isLetter 12 = .ok (.iconst 1, 1) := by decide +kernel
theorem dX9_isLetter_13 : decode cX9_isLetter 13 = .ok (.goto 4, 3) := by decide +kernel
theorem dX9_isLetter_16 : decode cX9_isLetter 16 = .ok (.iconst 0, 1) := by decide +kernel
theorem dX9_isLetter_17 : decode cX9_isLetter 17 = .ok (.ireturn, 1) := by decide +kernel
theorem dX9_take_0 : decode cX9_take 0 = .ok (.aload_n 1, 1) := by decide +kernel
theorem dX9_take_1 : decode cX9_take 1 = .ok (.iload_n 2, 1) := by decide +kernel
theorem dX9_take_2 : decode cX9_take 2 = .ok (.invokevirtual 60, 3) := by decide +kernel
theorem dX9_take_5 : decode cX9_take 5 = .ok (.lookupswitch 100 #[(99, 71), (100, 43), (109, 56), (110, 91)], 43) := by decide +kernel
theorem dX9_take_48 : decode cX9_take 48 = .ok (.aload_n 0, 1) := by decide +kernel
theorem dX9_take_49 : decode cX9_take 49 = .ok (.aload_n 0, 1) := by decide +kernel
theorem dX9_take_50 : decode cX9_take 50 = .ok (.aload_n 1, 1) := by decide +kernel
theorem dX9_take_51 : decode cX9_take 51 = .ok (.iload_n 2, 1) := by decide +kernel
theorem dX9_take_52 : decode cX9_take 52 = .ok (.iconst 1, 1) := by decide +kernel
theorem dX9_take_53 : decode cX9_take 53 = .ok (.iadd, 1) := by decide +kernel
theorem dX9_take_54 : decode cX9_take 54 = .ok (.invokevirtual 95, 3) := by decide +kernel
theorem dX9_take_57 : decode cX9_take 57 = .ok (.invokevirtual 99, 3) := by decide +kernel
theorem dX9_take_60 : decode cX9_take 60 = .ok (.ireturn, 1) := by decide +kernel
theorem dX9_take_61 : decode cX9_take 61 = .ok (.aload_n 0, 1) := by decide +kernel
theorem dX9_take_62 : decode cX9_take 62 = .ok (.aload_n 1, 1) := by decide +kernel
theorem dX9_take_63 : decode cX9_take 63 = .ok (.iload_n 2, 1) := by decide +kernel
theorem dX9_take_64 : decode cX9_take 64 = .ok (.iconst 1, 1) := by decide +kernel
theorem dX9_take_65 : decode cX9_take 65 = .ok (.iadd, 1) := by decide +kernel
theorem dX9_take_66 : decode cX9_take 66 = .ok (.invokevirtual 60, 3) := by decide +kernel
theorem dX9_take_69 : decode cX9_take 69 = .ok (.bipush 97, 2) := by decide +kernel
theorem dX9_take_71 : decode cX9_take 71 = .ok (.isub, 1) := by decide +kernel
theorem dX9_take_72 : decode cX9_take 72 = .ok (.invokevirtual 103, 3) := by decide +kernel
theorem dX9_take_75 : decode cX9_take 75 = .ok (.ireturn, 1) := by decide +kernel
theorem dX9_take_76 : decode cX9_take 76 = .ok (.aload_n 0, 1) := by decide +kernel
theorem dX9_take_77 : decode cX9_take 77 = .ok (.aload_n 1, 1) := by decide +kernel
theorem dX9_take_78 : decode cX9_take 78 = .ok (.iload_n 2, 1) := by decide +kernel
theorem dX9_take_79 : decode cX9_take 79 = .ok (.iconst 1, 1) := by decide +kernel
theorem dX9_take_80 : decode cX9_take 80 = .ok (.iadd, 1) := by decide +kernel
theorem dX9_take_81 : decode cX9_take 81 = .ok (.invokestatic 106, 3) := by decide +kernel
theorem dX9_take_84 : decode cX9_take 84 = .ok (.invokevirtual 109, 3) := by decide +kernel
theorem dX9_take_87 : decode cX9_take 87 = .ok (.ifCond .lt 7, 3) := by decide +kernel
theorem dX9_take_90 : decode cX9_take 90 = .ok (.iconst 1, 1) := by decide +kernel
theorem dX9_take_91 : decode cX9_take 91 = .ok (.goto 4, 3) := by decide +kernel
theorem dX9_take_94 : decode cX9_take 94 = .ok (.iconst 0, 1) := by decide +kernel
theorem dX9_take_95 : decode cX9_take 95 = .ok (.ireturn, 1) := by decide +kernel
theorem dX9_take_96 : decode cX9_take 96 = .ok (.aload_n 0, 1) := by decide +kernel
theorem dX9_take_97 : decode cX9_take 97 = .ok (.aload_n 1, 1) := by decide +kernel
theorem dX9_take_98 : decode cX9_take 98 = .ok (.iload_n 2, 1) := by decide +kernel
theorem dX9_take_99 : decode cX9_take 99 = .ok (.iconst 1, 1) := by decide +kernel
theorem dX9_take_100 : decode cX9_take 100 = .ok (.iadd, 1) := by decide +kernel
theorem dX9_take_101 : decode cX9_take 101 = .ok (.invokevirtual 112, 3) := by decide +kernel
theorem dX9_take_104 : decode cX9_take 104 = .ok (.ireturn, 1) := by decide +kernel
theorem dX9_take_105 : decode cX9_take 105 = .ok (.aload_n 0, 1) := by decide +kernel
theorem dX9_take_106 : decode cX9_take 106 = .ok (.aload_n 1, 1) := by decide +kernel
theorem dX9_take_107 : decode cX9_take 107 = .ok (.iload_n 2, 1) := by decide +kernel
theorem dX9_take_108 : decode cX9_take 108 = .ok (.iconst 1, 1) := by decide +kernel
theorem dX9_take_109 : decode cX9_take 109 = .ok (.iadd, 1) := by decide +kernel
theorem dX9_take_110 : decode cX9_take 110 = .ok (.invokestatic 106, 3) := by decide +kernel
theorem dX9_take_113 : decode cX9_take 113 = .ok (.invokevirtual 115, 3) := by decide +kernel
theorem dX9_take_116 : decode cX9_take 116 = .ok (.ifCond .lt 7, 3) := by decide +kernel
theorem dX9_take_119 : decode cX9_take 119 = .ok (.iconst 1, 1) := by decide +kernel
theorem dX9_take_120 : decode cX9_take 120 = .ok (.goto 4, 3) := by decide +kernel
theorem dX9_take_123 : decode cX9_take 123 = .ok (.iconst 0, 1) := by decide +kernel
theorem dX9_take_124 : decode cX9_take 124 = .ok (.ireturn, 1) := by decide +kernel
theorem dX9_takeMark_0 : decode cX9_takeMark 0 = .ok (.aload_n 0, 1) := by decide +kernel
theorem dX9_takeMark_1 : decode cX9_takeMark 1 = .ok (.getfield 31, 3) := by decide +kernel
theorem dX9_takeMark_4 : decode cX9_takeMark 4 = .ok (.iload_n 1, 1) := by decide +kernel
theorem dX9_takeMark_5 : decode cX9_takeMark 5 = .ok (.ishr, 1) := by decide +kernel
theorem dX9_takeMark_6 : decode cX9_takeMark 6 = .ok (.iconst 1, 1) := by decide +kernel
theorem dX9_takeMark_7 : decode cX9_takeMark 7 = .ok (.iand, 1) := by decide +kernel
theorem dX9_takeMark_8 : decode cX9_takeMark 8 = .ok (.ifCond .eq 5, 3) := by decide +kernel
theorem dX9_takeMark_11 : decode cX9_takeMark 11 = .ok (.iconst 0, 1) := by decide +kernel
theorem dX9_takeMark_12 : decode cX9_takeMark 12 = .ok (.ireturn, 1) := by decide +kernel
theorem dX9_takeMark_13 : decode cX9_takeMark 13 = .ok (.aload_n 0, 1) := by decide +kernel
theorem dX9_takeMark_14 : decode cX9_takeMark 14 = .ok (.dup, 1) := by decide +kernel
theorem dX9_takeMark_15 : decode cX9_takeMark 15 = .ok (.getfield 31, 3) := by decide +kernel
theorem dX9_takeMark_18 : decode cX9_takeMark 18 = .ok (.iconst 1, 1) := by decide +kernel
theorem dX9_takeMark_19 : decode cX9_takeMark 19 = .ok (.iload_n 1, 1) := by decide +kernel
theorem dX9_takeMark_20 : decode cX9_takeMark 20 = .ok (.ishl, 1) := by decide +kernel
theorem dX9_takeMark_21 : decode cX9_takeMark 21 = .ok (.ior, 1) := by decide +kernel
theorem dX9_takeMark_22 : decode cX9_takeMark 22 = .ok (.putfield 31, 3) := by decide +kernel
theorem dX9_takeMark_25 : decode cX9_takeMark 25 = .ok (.iconst 1, 1) := by decide +kernel
theorem dX9_takeMark_26 : decode cX9_takeMark 26 = .ok (.ireturn, 1) := by decide +kernel
theorem dX9_takeNail_0 : decode cX9_takeNail 0 = .ok (.aload_n 1, 1) := by decide +kernel
theorem dX9_takeNail_1 : decode cX9_takeNail 1 = .ok (.iload_n 2, 1) := by decide +kernel
theorem dX9_takeNail_2 : decode cX9_takeNail 2 = .ok (.iconst 2, 1) := by decide +kernel
theorem dX9_takeNail_3 : decode cX9_takeNail 3 = .ok (.invokestatic 69, 3) := by decide +kernel
theorem dX9_takeNail_6 : decode cX9_takeNail 6 = .ok (.iconst 1, 1) := by decide +kernel
theorem dX9_takeNail_7 : decode cX9_takeNail 7 = .ok (.iadd, 1) := by decide +kernel
theorem dX9_takeNail_8 : decode cX9_takeNail 8 = .ok (.istore_n 3, 1) := by decide +kernel
theorem dX9_takeNail_9 : decode cX9_takeNail 9 = .ok (.aload_n 1, 1) := by decide +kernel
theorem dX9_takeNail_10 : decode cX9_takeNail 10 = .ok (.iload_n 3, 1) := by decide +kernel
theorem dX9_takeNail_11 : decode cX9_takeNail 11 = .ok (.iconst 1, 1) := by decide +kernel
theorem dX9_takeNail_12 : decode cX9_takeNail 12 = .ok (.iadd, 1) := by decide +kernel
theorem dX9_takeNail_13 : decode cX9_takeNail 13 = .ok (.invokestatic 106, 3) := by decide +kernel
theorem dX9_takeNail_16 : decode cX9_takeNail 16 = .ok (.istore 4, 2) := by decide +kernel
theorem dX9_takeNail_18 : decode cX9_takeNail 18 = .ok (.aload_n 0, 1) := by decide +kernel
theorem dX9_takeNail_19 : decode cX9_takeNail 19 = .ok (.aload_n 1, 1) := by decide +kernel
theorem dX9_takeNail_20 : decode cX9_takeNail 20 = .ok (.iload_n 3, 1) := by decide +kernel
theorem dX9_takeNail_21 : decode cX9_takeNail 21 = .ok (.invokevirtual 60, 3) := by decide +kernel
theorem dX9_takeNail_24 : decode cX9_takeNail 24 = .ok (.bipush 45, 2) := by decide +kernel
theorem dX9_takeNail_26 : decode cX9_takeNail 26 = .ok (.if_icmp .ne 9, 3) := by decide +kernel
theorem dX9_takeNail_29 : decode cX9_takeNail 29 = .ok (.iload 4, 2) := by decide +kernel
theorem dX9_takeNail_31 : decode cX9_takeNail 31 = .ok (.ineg, 1) := by decide +kernel
theorem dX9_takeNail_32 : decode cX9_takeNail 32 = .ok (.goto 5, 3) := by decide +kernel
theorem dX9_takeNail_35 : decode cX9_takeNail 35 = .ok (.iload 4, 2) := by decide +kernel
theorem dX9_takeNail_37 : decode cX9_takeNail 37 = .ok (.putfield 37, 3) := by decide +kernel
theorem dX9_takeNail_40 : decode cX9_takeNail 40 = .ok (.aload_n 0, 1) := by decide +kernel
theorem dX9_takeNail_41 : decode cX9_takeNail 41 = .ok (.aload_n 1, 1) := by decide +kernel
theorem dX9_takeNail_42 : decode cX9_takeNail 42 = .ok (.iload_n 2, 1) := by decide +kernel
theorem dX9_takeNail_43 : decode cX9_takeNail 43 = .ok (.invokestatic 106, 3) := by decide +kernel
theorem dX9_takeNail_46 : decode cX9_takeNail 46 = .ok (.invokevirtual 118, 3) := by decide +kernel
theorem dX9_takeNail_49 : decode cX9_takeNail 49 = .ok (.ifCond .lt 7, 3) := by decide +kernel
theorem dX9_takeNail_52 : decode cX9_takeNail 52 = .ok (.iconst 1, 1) := by decide +kernel
theorem dX9_takeNail_53 : decode cX9_takeNail 53 = .ok (.goto 4, 3) := by decide +kernel
theorem dX9_takeNail_56 : decode cX9_takeNail 56 = .ok (.iconst 0, 1) := by decide +kernel
theorem dX9_takeNail_57 : decode cX9_takeNail 57 = .ok (.ireturn, 1) := by decide +kernel
theorem dX9_takeDeed_0 : decode cX9_takeDeed 0 = .ok (.aload_n 1, 1) := by decide +kernel
theorem dX9_takeDeed_1 : decode cX9_takeDeed 1 = .ok (.ifnull 15, 3) := by decide +kernel
theorem dX9_takeDeed_4 : decode cX9_takeDeed 4 = .ok (.aload_n 0, 1) := by decide +kernel
theorem dX9_takeDeed_5 : decode cX9_takeDeed 5 = .ok (.getfield 28, 3) := by decide +kernel
theorem dX9_takeDeed_8 : decode cX9_takeDeed 8 = .ok (.aload_n 0, 1) := by decide +kernel
theorem dX9_takeDeed_9 : decode cX9_takeDeed 9 = .ok (.getfield 11, 3) := by decide +kernel
theorem dX9_takeDeed_12 : decode cX9_takeDeed 12 = .ok (.arraylength, 1) := by decide +kernel
theorem dX9_takeDeed_13 : decode cX9_takeDeed 13 = .ok (.if_icmp .lt 5, 3) := by decide +kernel
theorem dX9_takeDeed_16 : decode cX9_takeDeed 16 = .ok (.iconst 0, 1) := by decide +kernel
theorem dX9_takeDeed_17 : decode cX9_takeDeed 17 = .ok (.ireturn, 1) := by decide +kernel
theorem dX9_takeDeed_18 : decode cX9_takeDeed 18 = .ok (.aload_n 0, 1) := by decide +kernel
theorem dX9_takeDeed_19 : decode cX9_takeDeed 19 = .ok (.getfield 11, 3) := by decide +kernel
theorem dX9_takeDeed_22 : decode cX9_takeDeed 22 = .ok (.aload_n 0, 1) := by decide +kernel
theorem dX9_takeDeed_23 : decode cX9_takeDeed 23 = .ok (.getfield 28, 3) := by decide +kernel
theorem dX9_takeDeed_26 : decode cX9_takeDeed 26 = .ok (.aload_n 1, 1) := by decide +kernel
theorem dX9_takeDeed_27 : decode cX9_takeDeed 27 = .ok (.aastore, 1) := by decide +kernel
theorem dX9_takeDeed_28 : decode cX9_takeDeed 28 = .ok (.aload_n 0, 1) := by decide +kernel
theorem dX9_takeDeed_29 : decode cX9_takeDeed 29 = .ok (.dup, 1) := by decide +kernel
theorem dX9_takeDeed_30 : decode cX9_takeDeed 30 = .ok (.getfield 28, 3) := by decide +kernel
theorem dX9_takeDeed_33 : decode cX9_takeDeed 33 = .ok (.iconst 1, 1) := by decide +kernel
theorem dX9_takeDeed_34 : decode cX9_takeDeed 34 = .ok (.iadd, 1) := by decide +kernel
theorem dX9_takeDeed_35 : decode cX9_takeDeed 35 = .ok (.putfield 28, 3) := by decide +kernel
theorem dX9_takeDeed_38 : decode cX9_takeDeed 38 = .ok (.iconst 1, 1) := by decide +kernel
theorem dX9_takeDeed_39 : decode cX9_takeDeed 39 = .ok (.ireturn, 1) := by decide +kernel
theorem dX9_newDeed_0 : decode cX9_newDeed 0 = .ok (.aload_n 1, 1) := by decide +kernel
theorem dX9_newDeed_1 : decode cX9_newDeed 1 = .ok (.iload_n 2, 1) := by decide +kernel
theorem dX9_newDeed_2 : decode cX9_newDeed 2 = .ok (.iconst 1, 1) := by decide +kernel
theorem dX9_newDeed_3 : decode cX9_newDeed 3 = .ok (.iadd, 1) := by decide +kernel
theorem dX9_newDeed_4 : decode cX9_newDeed 4 = .ok (.invokestatic 85, 3) := by decide +kernel
theorem dX9_newDeed_7 : decode cX9_newDeed 7 = .ok (.istore_n 3, 1) := by decide +kernel
theorem dX9_newDeed_8 : decode cX9_newDeed 8 = .ok (.iconst 0, 1) := by decide +kernel
theorem dX9_newDeed_9 : decode cX9_newDeed 9 = .ok (.istore 4, 2) := by decide +kernel
theorem dX9_newDeed_11 : decode cX9_newDeed 11 = .ok (.iload_n 2, 1) := by decide +kernel
theorem dX9_newDeed_12 : decode cX9_newDeed 12 = .ok (.iconst 1, 1) := by decide +kernel
theorem dX9_newDeed_13 : decode cX9_newDeed 13 = .ok (.iadd, 1) := by decide +kernel
theorem dX9_newDeed_14 : decode cX9_newDeed 14 = .ok (.istore 5, 2) := by decide +kernel
theorem dX9_newDeed_16 : decode cX9_newDeed 16 = .ok (.iload 5, 2) := by decide +kernel
theorem dX9_newDeed_18 : decode cX9_newDeed 18 = .ok (.iload_n 3, 1) := by decide +kernel
theorem dX9_newDeed_19 : decode cX9_newDeed 19 = .ok (.if_icmp .ge 25, 3) := by decide +kernel
theorem dX9_newDeed_22 : decode cX9_newDeed 22 = .ok (.iload 4, 2) := by decide +kernel
theorem dX9_newDeed_24 : decode cX9_newDeed 24 = .ok (.iconst 1, 1) := by decide +kernel
theorem dX9_newDeed_25 : decode cX9_newDeed 25 = .ok (.aload_n 1, 1) := by decide +kernel
theorem dX9_newDeed_26 : decode cX9_newDeed 26 = .ok (.iload 5, 2) := by decide +kernel
theorem dX9_newDeed_28 : decode cX9_newDeed 28 = .ok (.invokevirtual 60, 3) := by decide +kernel
theorem dX9_newDeed_31 : decode cX9_newDeed 31 = .ok (.bipush 97, 2) := by decide +kernel
theorem dX9_newDeed_33 : decode cX9_newDeed 33 = .ok (.isub, 1) := by decide +kernel
theorem dX9_newDeed_34 : decode cX9_newDeed 34 = .ok (.ishl, 1) := by decide +kernel
theorem dX9_newDeed_35 : decode cX9_newDeed 35 = .ok (.ior, 1) := by decide +kernel
theorem dX9_newDeed_36 : decode cX9_newDeed 36 = .ok (.istore 4, 2) := by decide +kernel
theorem dX9_newDeed_38 : decode cX9_newDeed 38 = .ok (.iinc 5 1, 3) := by decide +kernel
theorem dX9_newDeed_41 : decode cX9_newDeed 41 = .ok (.goto (-25), 3) := by decide +kernel
theorem dX9_newDeed_44 : decode cX9_newDeed 44 = .ok (.aload_n 1, 1) := by decide +kernel
theorem dX9_newDeed_45 : decode cX9_newDeed 45 = .ok (.iload_n 3, 1) := by decide +kernel
theorem dX9_newDeed_46 : decode cX9_newDeed 46 = .ok (.iconst 1, 1) := by decide +kernel
theorem dX9_newDeed_47 : decode cX9_newDeed 47 = .ok (.iadd, 1) := by decide +kernel
theorem dX9_newDeed_48 : decode cX9_newDeed 48 = .ok (.invokevirtual 60, 3) := by decide +kernel
theorem dX9_newDeed_51 : decode cX9_newDeed 51 = .ok (.bipush 97, 2) := by decide +kernel
theorem dX9_newDeed_53 : decode cX9_newDeed 53 = .ok (.isub, 1) := by decide +kernel
theorem dX9_newDeed_54 : decode cX9_newDeed 54 = .ok (.istore 5, 2) := by decide +kernel
theorem dX9_newDeed_56 : decode cX9_newDeed 56 = .ok (.iload_n 3, 1) := by decide +kernel
theorem dX9_newDeed_57 : decode cX9_newDeed 57 = .ok (.iconst 2, 1) := by decide +kernel
theorem dX9_newDeed_58 : decode cX9_newDeed 58 = .ok (.iadd, 1) := by decide +kernel
theorem dX9_newDeed_59 : decode cX9_newDeed 59 = .ok (.istore 6, 2) := by decide +kernel
theorem dX9_newDeed_61 : decode cX9_newDeed 61 = .ok (.aload_n 1, 1) := by decide +kernel
theorem dX9_newDeed_62 : decode cX9_newDeed 62 = .ok (.iload 6, 2) := by decide +kernel
theorem dX9_newDeed_64 : decode cX9_newDeed 64 = .ok (.invokestatic 106, 3) := by decide +kernel
theorem dX9_newDeed_67 : decode cX9_newDeed 67 = .ok (.istore 7, 2) := by decide +kernel
theorem dX9_newDeed_69 : decode cX9_newDeed 69 = .ok (.aload_n 1, 1) := by decide +kernel
theorem dX9_newDeed_70 : decode cX9_newDeed 70 = .ok (.aload_n 1, 1) := by decide +kernel
theorem dX9_newDeed_71 : decode cX9_newDeed 71 = .ok (.iload 6, 2) := by decide +kernel
theorem dX9_newDeed_73 : decode cX9_newDeed 73 = .ok (.iconst 2, 1) := by decide +kernel
theorem dX9_newDeed_74 : decode cX9_newDeed 74 = .ok (.invokestatic 69, 3) := by decide +kernel
theorem dX9_newDeed_77 : decode cX9_newDeed 77 = .ok (.iconst 1, 1) := by decide +kernel
theorem dX9_newDeed_78 : decode cX9_newDeed 78 = .ok (.iadd, 1) := by decide +kernel
theorem dX9_newDeed_79 : decode cX9_newDeed 79 = .ok (.invokestatic 106, 3) := by decide +kernel
theorem dX9_newDeed_82 : decode cX9_newDeed 82 = .ok (.istore 8, 2) := by decide +kernel
theorem dX9_newDeed_84 : decode cX9_newDeed 84 = .ok (.aload_n 1, 1) := by decide +kernel
theorem dX9_newDeed_85 : decode cX9_newDeed 85 = .ok (.iload_n 2, 1) := by decide +kernel
theorem dX9_newDeed_86 : decode cX9_newDeed 86 = .ok (.invokestatic 106, 3) := by decide +kernel
theorem dX9_newDeed_89 : decode cX9_newDeed 89 = .ok (.tableswitch 207 0 7 #[47, 67, 87, 107, 127, 147, 167, 187], 47) := by decide +kernel
theorem dX9_newDeed_136 : decode cX9_newDeed 136 = .ok (.new 9, 3) := by decide +kernel
theorem dX9_newDeed_139 : decode cX9_newDeed 139 = .ok (.dup, 1) := by decide +kernel
theorem dX9_newDeed_140 : decode cX9_newDeed 140 = .ok (.aload_n 0, 1) := by decide +kernel
theorem dX9_newDeed_141 : decode cX9_newDeed 141 = .ok (.getfield 28, 3) := by decide +kernel
theorem dX9_newDeed_144 : decode cX9_newDeed 144 = .ok (.iload 4, 2) := by decide +kernel
theorem dX9_newDeed_146 : decode cX9_newDeed 146 = .ok (.iload 5, 2) := by decide +kernel
theorem dX9_newDeed_148 : decode cX9_newDeed 148 = .ok (.iload 7, 2) := by decide +kernel
theorem dX9_newDeed_150 : decode cX9_newDeed 150 = .ok (.iload 8, 2) := by decide +kernel
theorem dX9_newDeed_152 : decode cX9_newDeed 152 = .ok (.invokespecial 121, 3) := by decide +kernel
theorem dX9_newDeed_155 : decode cX9_newDeed 155 = .ok (.areturn, 1) := by decide +kernel
theorem dX9_newDeed_156 : decode cX9_newDeed 156 = .ok (.new 124, 3) := by decide +kernel
theorem dX9_newDeed_159 : decode cX9_newDeed 159 = .ok (.dup, 1) := by decide +kernel
theorem dX9_newDeed_160 : decode cX9_newDeed 160 = .ok (.aload_n 0, 1) := by decide +kernel
theorem dX9_newDeed_161 : decode cX9_newDeed 161 = .ok (.getfield 28, 3) := by decide +kernel
theorem dX9_newDeed_164 : decode cX9_newDeed 164 = .ok (.iload 4, 2) := by decide +kernel
theorem dX9_newDeed_166 : decode cX9_newDeed 166 = .ok (.iload 5, 2) := by decide +kernel
theorem dX9_newDeed_168 : decode cX9_newDeed 168 = .ok (.iload 7, 2) := by decide +kernel
theorem dX9_newDeed_170 : decode cX9_newDeed 170 = .ok (.iload 8, 2) := by decide +kernel
theorem dX9_newDeed_172 : decode cX9_newDeed 172 = .ok (.invokespecial 126, 3) := by decide +kernel
theorem dX9_newDeed_175 : decode cX9_newDeed 175 = .ok (.areturn, 1) := by decide +kernel
theorem dX9_newDeed_176 : decode cX9_newDeed 176 = .ok (.new 127, 3) := by decide +kernel
theorem dX9_newDeed_179 : decode cX9_newDeed 179 = .ok (.dup, 1) := by decide +kernel
theorem dX9_newDeed_180 : decode cX9_newDeed 180 = .ok (.aload_n 0, 1) := by decide +kernel
theorem dX9_newDeed_181 : decode cX9_newDeed 181 = .ok (.getfield 28, 3) := by decide +kernel
theorem dX9_newDeed_184 : decode cX9_newDeed 184 = .ok (.iload 4, 2) := by decide +kernel
theorem dX9_newDeed_186 : decode cX9_newDeed 186 = .ok (.iload 5, 2) := by decide +kernel
theorem dX9_newDeed_188 : decode cX9_newDeed 188 = .ok (.iload 7, 2) := by decide +kernel
theorem dX9_newDeed_190 : decode cX9_newDeed 190 = .ok (.iload 8, 2) := by decide +kernel
theorem dX9_newDeed_192 : decode cX9_newDeed 192 = .ok (.invokespecial 129, 3) := by decide +kernel
theorem dX9_newDeed_195 : decode cX9_newDeed 195 = .ok (.areturn, 1) := by decide +kernel
theorem dX9_newDeed_196 : decode cX9_newDeed 196 = .ok (.new 130, 3) := by decide +kernel
theorem dX9_newDeed_199 : decode cX9_newDeed 199 = .ok (.dup, 1) := by decide +kernel
theorem dX9_newDeed_200 : decode cX9_newDeed 200 = .ok (.aload_n 0, 1) := by decide +kernel
theorem dX9_newDeed_201 : decode cX9_newDeed 201 = .ok (.getfield 28, 3) := by decide +kernel
theorem dX9_newDeed_204 : decode cX9_newDeed 204 = .ok (.iload 4, 2) := by decide +kernel
theorem dX9_newDeed_206 : decode cX9_newDeed 206 = .ok (.iload 5, 2) := by decide +kernel
theorem dX9_newDeed_208 : decode cX9_newDeed 208 = .ok (.iload 7, 2) := by decide +kernel
theorem dX9_newDeed_210 : decode cX9_newDeed 210 = .ok (.iload 8, 2) := by decide +kernel
theorem dX9_newDeed_212 : decode cX9_newDeed 212 = .ok (.invokespecial 132, 3) := by decide +kernel
theorem dX9_newDeed_215 : decode cX9_newDeed 215 = .ok (.areturn, 1) := by decide +kernel
theorem dX9_newDeed_216 : decode cX9_newDeed 216 = .ok (.new 133, 3) := by decide +kernel
theorem dX9_newDeed_219 : decode cX9_newDeed 219 = .ok (.dup, 1) := by decide +kernel
theorem dX9_newDeed_220 : decode cX9_newDeed 220 = .ok (.aload_n 0, 1) := by decide +kernel
theorem dX9_newDeed_221 : decode cX9_newDeed 221 = .ok (.getfield 28, 3) := by decide +kernel
theorem dX9_newDeed_224 : decode cX9_newDeed 224 = .ok (.iload 4, 2) := by decide +kernel
theorem dX9_newDeed_226 : decode cX9_newDeed 226 = .ok (.iload 5, 2) := by decide +kernel
theorem dX9_newDeed_228 : decode cX9_newDeed 228 = .ok (.iload 7, 2) := by decide +kernel
theorem dX9_newDeed_230 : decode cX9_newDeed 230 = .ok (.iload 8, 2) := by decide +kernel
theorem dX9_newDeed_232 : decode cX9_newDeed 232 = .ok (.invokespecial 135, 3) := by decide +kernel
theorem dX9_newDeed_235 : decode cX9_newDeed 235 = .ok (.areturn, 1) := by decide +kernel
theorem dX9_newDeed_236 : decode cX9_newDeed 236 = .ok (.new 136, 3) := by decide +kernel
theorem dX9_newDeed_239 : decode cX9_newDeed 239 = .ok (.dup, 1) := by decide +kernel
theorem dX9_newDeed_240 : decode cX9_newDeed 240 = .ok (.aload_n 0, 1) := by decide +kernel
theorem dX9_newDeed_241 : decode cX9_newDeed 241 = .ok (.getfield 28, 3) := by decide +kernel
theorem dX9_newDeed_244 : decode cX9_newDeed 244 = .ok (.iload 4, 2) := by decide +kernel
theorem dX9_newDeed_246 : decode cX9_newDeed 246 = .ok (.iload 5, 2) := by decide +kernel
theorem dX9_newDeed_248 : decode cX9_newDeed 248 = .ok (.iload 7, 2) := by decide +kernel
theorem dX9_newDeed_250 : decode cX9_newDeed 250 = .ok (.iload 8, 2) := by decide +kernel
theorem dX9_newDeed_252 : decode cX9_newDeed 252 = .ok (.invokespecial 138, 3) := by decide +kernel
theorem dX9_newDeed_255 : decode cX9_newDeed 255 = .ok (.areturn, 1) := by decide +kernel
theorem dX9_newDeed_256 : decode cX9_newDeed 256 = .ok (.new 139, 3) := by decide +kernel
theorem dX9_newDeed_259 : decode cX9_newDeed 259 = .ok (.dup, 1) := by decide +kernel
theorem dX9_newDeed_260 : decode cX9_newDeed 260 = .ok (.aload_n 0, 1) := by decide +kernel
theorem dX9_newDeed_261 : decode cX9_newDeed 261 = .ok (.getfield 28, 3) := by decide +kernel
theorem dX9_newDeed_264 : decode cX9_newDeed 264 = .ok (.iload 4, 2) := by decide +kernel
theorem dX9_newDeed_266 : decode cX9_newDeed 266 = .ok (.iload 5, 2) := by decide +kernel
theorem dX9_newDeed_268 : decode cX9_newDeed 268 = .ok (.iload 7, 2) := by decide +kernel
theorem dX9_newDeed_270 : decode cX9_newDeed 270 = .ok (.iload 8, 2) := by decide +kernel
theorem dX9_newDeed_272 : decode cX9_newDeed 272 = .ok (.invokespecial 141, 3) := by decide +kernel
theorem dX9_newDeed_275 : decode cX9_newDeed 275 = .ok (.areturn, 1) := by decide +kernel
theorem dX9_newDeed_276 : decode cX9_newDeed 276 = .ok (.new 142, 3) := by decide +kernel
theorem dX9_newDeed_279 : decode cX9_newDeed 279 = .ok (.dup, 1) := by decide +kernel
theorem dX9_newDeed_280 : decode cX9_newDeed 280 = .ok (.aload_n 0, 1) := by decide +kernel
theorem dX9_newDeed_281 : decode cX9_newDeed 281 = .ok (.getfield 28, 3) := by decide +kernel
theorem dX9_newDeed_284 : decode cX9_newDeed 284 = .ok (.iload 4, 2) := by decide +kernel
theorem dX9_newDeed_286 : decode cX9_newDeed 286 = .ok (.iload 5, 2) := by decide +kernel
theorem dX9_newDeed_288 : decode cX9_newDeed 288 = .ok (.iload 7, 2) := by decide +kernel
theorem dX9_newDeed_290 : decode cX9_newDeed 290 = .ok (.iload 8, 2) := by decide +kernel
theorem dX9_newDeed_292 : decode cX9_newDeed 292 = .ok (.invokespecial 144, 3) := by decide +kernel
theorem dX9_newDeed_295 : decode cX9_newDeed 295 = .ok (.areturn, 1) := by decide +kernel
theorem dX9_newDeed_296 : decode cX9_newDeed 296 = .ok (.aconst_null, 1) := by decide +kernel
theorem dX9_newDeed_297 : decode cX9_newDeed 297 = .ok (.areturn, 1) := by decide +kernel
theorem dX9_number_0 : decode cX9_number 0 = .ok (.iconst 0, 1) := by decide +kernel
theorem dX9_number_1 : decode cX9_number 1 = .ok (.istore_n 2, 1) := by decide +kernel
theorem dX9_number_2 : decode cX9_number 2 = .ok (.iload_n 1, 1) := by decide +kernel
theorem dX9_number_3 : decode cX9_number 3 = .ok (.istore_n 3, 1) := by decide +kernel
theorem dX9_number_4 : decode cX9_number 4 = .ok (.iload_n 3, 1) := by decide +kernel
theorem dX9_number_5 : decode cX9_number 5 = .ok (.aload_n 0, 1) := by decide +kernel
theorem dX9_number_6 : decode cX9_number 6 = .ok (.getfield 43, 3) := by decide +kernel
theorem dX9_number_9 : decode cX9_number 9 = .ok (.if_icmp .ge 34, 3) := by decide +kernel
theorem dX9_number_12 : decode cX9_number 12 = .ok (.aload_n 0, 1) := by decide +kernel
theorem dX9_number_13 : decode cX9_number 13 = .ok (.iload_n 3, 1) := by decide +kernel
theorem dX9_number_14 : decode cX9_number 14 = .ok (.invokevirtual 60, 3) := by decide +kernel
theorem dX9_number_17 : decode cX9_number 17 = .ok (.invokestatic 88, 3) := by decide +kernel
theorem dX9_number_20 : decode cX9_number 20 = .ok (.ifCond .eq 23, 3) := by decide +kernel
theorem dX9_number_23 : decode cX9_number 23 = .ok (.bipush 10, 2) := by decide +kernel
theorem dX9_number_25 : decode cX9_number 25 = .ok (.iload_n 2, 1) := by decide +kernel
theorem dX9_number_26 : decode cX9_number 26 = .ok (.imul, 1) := by decide +kernel
theorem dX9_number_27 : decode cX9_number 27 = .ok (.aload_n 0, 1) := by decide +kernel
theorem dX9_number_28 : decode cX9_number 28 = .ok (.iload_n 3, 1) := by decide +kernel
theorem dX9_number_29 : decode cX9_number 29 = .ok (.invokevirtual 60, 3) := by decide +kernel
theorem dX9_number_32 : decode cX9_number 32 = .ok (.iadd, 1) := by decide +kernel
theorem dX9_number_33 : decode cX9_number 33 = .ok (.bipush 48, 2) := by decide +kernel
theorem dX9_number_35 : decode cX9_number 35 = .ok (.isub, 1) := by decide +kernel
theorem dX9_number_36 : decode cX9_number 36 = .ok (.istore_n 2, 1) := by decide +kernel
theorem dX9_number_37 : decode cX9_number 37 = .ok (.iinc 3 1, 3) := by decide +kernel
theorem dX9_number_40 : decode cX9_number 40 = .ok (.goto (-36), 3) := by decide +kernel
theorem dX9_number_43 : decode cX9_number 43 = .ok (.iload_n 2, 1) := by decide +kernel
theorem dX9_number_44 : decode cX9_number 44 = .ok (.ireturn, 1) := by decide +kernel
theorem dX10_init_0 : decode cX10_init 0 = .ok (.aload_n 0, 1) := by decide +kernel
theorem dX10_init_1 : decode cX10_init 1 = .ok (.invokespecial 3, 3) := by decide +kernel
theorem dX10_init_4 : decode cX10_init 4 = .ok (.aload_n 0, 1) := by decide +kernel
theorem dX10_init_5 : decode cX10_init 5 = .ok (.bipush 16, 2) := by decide +kernel
theorem dX10_init_7 : decode cX10_init 7 = .ok (.anewarray 9, 3) := by decide +kernel
theorem dX10_init_10 : decode cX10_init 10 = .ok (.putfield 11, 3) := by decide +kernel
theorem dX10_init_13 : decode cX10_init 13 = .ok (.aload_n 0, 1) := by decide +kernel
theorem dX10_init_14 : decode cX10_init 14 = .ok (.bipush 16, 2) := by decide +kernel
theorem dX10_init_16 : decode cX10_init 16 = .ok (.newarray .int, 2) := by decide +kernel
theorem dX10_init_18 : decode cX10_init 18 = .ok (.putfield 17, 3) := by decide +kernel
theorem dX10_init_21 : decode cX10_init 21 = .ok (.aload_n 0, 1) := by decide +kernel
theorem dX10_init_22 : decode cX10_init 22 = .ok (.bipush 16, 2) := by decide +kernel
theorem dX10_init_24 : decode cX10_init 24 = .ok (.newarray .int, 2) := by decide +kernel
theorem dX10_init_26 : decode cX10_init 26 = .ok (.putfield 21, 3) := by decide +kernel
theorem dX10_init_29 : decode cX10_init 29 = .ok (.return_, 1) := by decide +kernel
theorem dX10_open_0 : decode cX10_open 0 = .ok (.aload_n 0, 1) := by decide +kernel
theorem dX10_open_1 : decode cX10_open 1 = .ok (.aload_n 1, 1) := by decide +kernel
theorem dX10_open_2 : decode cX10_open 2 = .ok (.putfield 24, 3) := by decide +kernel
theorem dX10_open_5 : decode cX10_open 5 = .ok (.aload_n 0, 1) := by decide +kernel
theorem dX10_open_6 : decode cX10_open 6 = .ok (.aload_n 1, 1) := by decide +kernel
theorem dX10_open_7 : decode cX10_open 7 = .ok (.getfield 28, 3) := by decide +kernel
theorem dX10_open_10 : decode cX10_open 10 = .ok (.putfield 34, 3) := by decide +kernel
theorem dX10_open_13 : decode cX10_open 13 = .ok (.aload_n 0, 1) := by decide +kernel
theorem dX10_open_14 : decode cX10_open 14 = .ok (.iconst 0, 1) := by decide +kernel
theorem dX10_open_15 : decode cX10_open 15 = .ok (.putfield 35, 3) := by decide +kernel
theorem dX10_open_18 : decode cX10_open 18 = .ok (.return_, 1) := by decide +kernel
theorem dX10_add_0 : decode cX10_add 0 = .ok (.aload_n 1, 1) := by decide +kernel
theorem dX10_add_1 : decode cX10_add 1 = .ok (.ifnull 35, 3) := by decide +kernel
theorem dX10_add_4 : decode cX10_add 4 = .ok (.aload_n 0, 1) := by decide +kernel
theorem dX10_add_5 : decode cX10_add 5 = .ok (.getfield 35, 3) := by decide +kernel
theorem dX10_add_8 : decode cX10_add 8 = .ok (.aload_n 0, 1) := by decide +kernel
theorem dX10_add_9 : decode cX10_add 9 = .ok (.getfield 11, 3) := by decide +kernel
theorem dX10_add_12 : decode cX10_add 12 = .ok (.arraylength, 1) := by decide +kernel
theorem dX10_add_13 : decode cX10_add 13 = .ok (.if_icmp .ge 23, 3) := by decide +kernel
theorem dX10_add_16 : decode cX10_add 16 = .ok (.aload_n 0, 1) := by decide +kernel
theorem dX10_add_17 : decode cX10_add 17 = .ok (.getfield 11, 3) := by decide +kernel
theorem dX10_add_20 : decode cX10_add 20 = .ok (.aload_n 0, 1) := by decide +kernel
theorem dX10_add_21 : decode cX10_add 21 = .ok (.getfield 35, 3) := by decide +kernel
theorem dX10_add_24 : decode cX10_add 24 = .ok (.aload_n 1, 1) := by decide +kernel
theorem dX10_add_25 : decode cX10_add 25 = .ok (.aastore, 1) := by decide +kernel
theorem dX10_add_26 : decode cX10_add 26 = .ok (.aload_n 0, 1) := by decide +kernel
theorem dX10_add_27 : decode cX10_add 27 = .ok (.dup, 1) := by decide +kernel
theorem dX10_add_28 : decode cX10_add 28 = .ok (.getfield 35, 3) := by decide +kernel
theorem dX10_add_31 : decode cX10_add 31 = .ok (.iconst 1, 1) := by decide +kernel
theorem dX10_add_32 : decode cX10_add 32 = .ok (.iadd, 1) := by decide +kernel
theorem dX10_add_33 : decode cX10_add 33 = .ok (.putfield 35, 3) := by decide +kernel
theorem dX10_add_36 : decode cX10_add 36 = .ok (.return_, 1) := by decide +kernel
theorem dX10_deedAt_0 : decode cX10_deedAt 0 = .ok (.iload_n 1, 1) := by decide +kernel
theorem dX10_deedAt_1 : decode cX10_deedAt 1 = .ok (.ifCond .lt 29, 3) := by decide +kernel
theorem dX10_deedAt_4 : decode cX10_deedAt 4 = .ok (.iload_n 1, 1) := by decide +kernel
theorem dX10_deedAt_5 : decode cX10_deedAt 5 = .ok (.aload_n 0, 1) := by decide +kernel
theorem dX10_deedAt_6 : decode cX10_deedAt 6 = .ok (.getfield 35, 3) := by decide +kernel
theorem dX10_deedAt_9 : decode cX10_deedAt 9 = .ok (.if_icmp .ge 21, 3) := by decide +kernel
theorem dX10_deedAt_12 : decode cX10_deedAt 12 = .ok (.iload_n 1, 1) := by decide +kernel
theorem dX10_deedAt_13 : decode cX10_deedAt 13 = .ok (.aload_n 0, 1) := by decide +kernel
theorem dX10_deedAt_14 : decode cX10_deedAt 14 = .ok (.getfield 11, 3) := by decide +kernel
theorem dX10_deedAt_17 : decode cX10_deedAt 17 = .ok (.arraylength, 1) := by decide +kernel
theorem dX10_deedAt_18 : decode cX10_deedAt 18 = .ok (.if_icmp .ge 12, 3) := by decide +kernel
theorem dX10_deedAt_21 : decode cX10_deedAt 21 = .ok (.aload_n 0, 1) := by decide +kernel
theorem dX10_deedAt_22 : decode cX10_deedAt 22 = .ok (.getfield 11, 3) := by decide +kernel
theorem dX10_deedAt_25 : decode cX10_deedAt 25 = .ok (.iload_n 1, 1) := by decide +kernel
theorem dX10_deedAt_26 : decode cX10_deedAt 26 = .ok (.aaload, 1) := by decide +kernel
theorem dX10_deedAt_27 : decode cX10_deedAt 27 = .ok (.goto 4, 3) := by decide +kernel
theorem dX10_deedAt_30 : decode cX10_deedAt 30 = .ok (.aconst_null, 1) := by decide +kernel
theorem dX10_deedAt_31 : decode cX10_deedAt 31 = .ok (.areturn, 1) := by decide +kernel
theorem dX10_begin_0 : decode cX10_begin 0 = .ok (.aload_n 0, 1) := by decide +kernel
theorem dX10_begin_1 : decode cX10_begin 1 = .ok (.iload_n 1, 1) := by decide +kernel
theorem dX10_begin_2 : decode cX10_begin 2 = .ok (.putfield 38, 3) := by decide +kernel
theorem dX10_begin_5 : decode cX10_begin 5 = .ok (.aload_n 0, 1) := by decide +kernel
theorem dX10_begin_6 : decode cX10_begin 6 = .ok (.iload_n 2, 1) := by decide +kernel
theorem dX10_begin_7 : decode cX10_begin 7 = .ok (.putfield 41, 3) := by decide +kernel
theorem dX10_begin_10 : decode cX10_begin 10 = .ok (.aload_n 0, 1) := by decide +kernel
theorem dX10_begin_11 : decode cX10_begin 11 = .ok (.iconst 0, 1) := by decide +kernel
theorem dX10_begin_12 : decode cX10_begin 12 = .ok (.putfield 44, 3) := by decide +kernel
theorem dX10_begin_15 : decode cX10_begin 15 = .ok (.aload_n 0, 1) := by decide +kernel
theorem dX10_begin_16 : decode cX10_begin 16 = .ok (.iconst 0, 1) := by decide +kernel
theorem dX10_begin_17 : decode cX10_begin 17 = .ok (.putfield 47, 3) := by decide +kernel
theorem dX10_begin_20 : decode cX10_begin 20 = .ok (.aload_n 0, 1) := by decide +kernel
theorem dX10_begin_21 : decode cX10_begin 21 = .ok (.iconst 0, 1) := by decide +kernel
theorem dX10_begin_22 : decode cX10_begin 22 = .ok (.putfield 50, 3) := by decide +kernel
theorem dX10_begin_25 : decode cX10_begin 25 = .ok (.aload_n 0, 1) := by decide +kernel
theorem dX10_begin_26 : decode cX10_begin 26 = .ok (.iconst 0, 1) := by decide +kernel
theorem dX10_begin_27 : decode cX10_begin 27 = .ok (.putfield 53, 3) := by decide +kernel
theorem dX10_begin_30 : decode cX10_begin 30 = .ok (.aload_n 0, 1) := by decide +kernel
theorem dX10_begin_31 : decode cX10_begin 31 = .ok (.iconst 0, 1) := by decide +kernel
theorem dX10_begin_32 : decode cX10_begin 32 = .ok (.putfield 56, 3) := by decide +kernel
theorem dX10_begin_35 : decode cX10_begin 35 = .ok (.aload_n 0, 1) := by decide +kernel
theorem dX10_begin_36 : decode cX10_begin 36 = .ok (.iconst 0, 1) := by decide +kernel
theorem dX10_begin_37 : decode cX10_begin 37 = .ok (.putfield 59, 3) := by decide +kernel
theorem dX10_begin_40 : decode cX10_begin 40 = .ok (.return_, 1) := by decide +kernel
theorem dX10_play_0 : decode cX10_play 0 = .ok (.aload_n 0, 1) := by decide +kernel
theorem dX10_play_1 : decode cX10_play 1 = .ok (.getfield 24, 3) := by decide +kernel
theorem dX10_play_4 : decode cX10_play 4 = .ok (.ifnull 21, 3) := by decide +kernel
theorem dX10_play_7 : decode cX10_play 7 = .ok (.aload_n 0, 1) := by decide +kernel
theorem dX10_play_8 : decode cX10_play 8 = .ok (.aload_n 0, 1) := by decide +kernel
theorem dX10_play_9 : decode cX10_play 9 = .ok (.getfield 24, 3) := by decide +kernel
theorem dX10_play_12 : decode cX10_play 12 = .ok (.getfield 62, 3) := by decide +kernel
theorem dX10_play_15 : decode cX10_play 15 = .ok (.aload_n 0, 1) := by decide +kernel
theorem dX10_play_16 : decode cX10_play 16 = .ok (.getfield 24, 3) := by decide +kernel
theorem dX10_play_19 : decode cX10_play 19 = .ok (.getfield 63, 3) := by decide +kernel
theorem dX10_play_22 : decode cX10_play 22 = .ok (.invokevirtual 64, 3) := by decide +kernel
theorem dX10_play_25 : decode cX10_play 25 = .ok (.aload_n 0, 1) := by decide +kernel
theorem dX10_play_26 : decode cX10_play 26 = .ok (.iload_n 1, 1) := by decide +kernel
theorem dX10_play_27 : decode cX10_play 27 = .ok (.invokevirtual 68, 3) := by decide +kernel
theorem dX10_play_30 : decode cX10_play 30 = .ok (.aload_n 0, 1) := by decide +kernel
theorem dX10_play_31 : decode cX10_play 31 = .ok (.invokevirtual 72, 3) := by decide +kernel
theorem dX10_play_34 : decode cX10_play 34 = .ok (.return_, 1) := by decide +kernel
theorem dX10_evenYear_0 : decode cX10_evenYear 0 = .ok (.iconst 0, 1) := by decide +kernel
theorem dX10_evenYear_1 : decode cX10_evenYear 1 = .ok (.istore_n 2, 1) := by decide +kernel
theorem dX10_evenYear_2 : decode cX10_evenYear 2 = .ok (.iload_n 2, 1) := by decide +kernel
theorem dX10_evenYear_3 : decode cX10_evenYear 3 = .ok (.aload_n 0, 1) := by decide +kernel
theorem dX10_evenYear_4 : decode cX10_evenYear 4 = .ok (.getfield 35, 3) := by decide +kernel
theorem dX10_evenYear_7 : decode cX10_evenYear 7 = .ok (.if_icmp .ge 15, 3) := by decide +kernel
theorem dX10_evenYear_10 : decode cX10_evenYear 10 = .ok (.aload_n 0, 1) := by decide +kernel
theorem dX10_evenYear_11 : decode cX10_evenYear 11 = .ok (.iload_n 2, 1) := by decide +kernel
theorem dX10_evenYear_12 : decode cX10_evenYear 12 = .ok (.iload_n 1, 1) := by decide +kernel
theorem dX10_evenYear_13 : decode cX10_evenYear 13 = .ok (.invokevirtual 75, 3) := by decide +kernel
theorem dX10_evenYear_16 : decode cX10_evenYear 16 = .ok (.iinc 2 1, 3) := by decide +kernel
theorem dX10_evenYear_19 : decode cX10_evenYear 19 = .ok (.goto (-17), 3) := by decide +kernel
theorem dX10_evenYear_22 : decode cX10_evenYear 22 = .ok (.return_, 1) := by decide +kernel
theorem dX10_evenPlace_0 : decode cX10_evenPlace 0 = .ok (.aload_n 0, 1) := by decide +kernel
theorem dX10_evenPlace_1 : decode cX10_evenPlace 1 = .ok (.iload_n 1, 1) := by decide +kernel
theorem dX10_evenPlace_2 : decode cX10_evenPlace 2 = .ok (.invokevirtual 78, 3) := by decide +kernel
theorem dX10_evenPlace_5 : decode cX10_evenPlace 5 = .ok (.astore_n 3, 1) := by decide +kernel
theorem dX10_evenPlace_6 : decode cX10_evenPlace 6 = .ok (.aload_n 3, 1) := by decide +kernel
theorem dX10_evenPlace_7 : decode cX10_evenPlace 7 = .ok (.ifnull 18, 3) := by decide +kernel
theorem dX10_evenPlace_10 : decode cX10_evenPlace 10 = .ok (.aload_n 3, 1) := by decide +kernel
theorem dX10_evenPlace_11 : decode cX10_evenPlace 11 = .ok (.aload_n 0, 1) := by decide +kernel
theorem dX10_evenPlace_12 : decode cX10_evenPlace 12 = .ok (.getfield 38, 3) := by decide +kernel
theorem dX10_evenPlace_15 : decode cX10_evenPlace 15 = .ok (.aload_n 0, 1) := by decide +kernel
theorem dX10_evenPlace_16 : decode cX10_evenPlace 16 = .ok (.getfield 41, 3) := by decide +kernel
theorem dX10_evenPlace_19 : decode cX10_evenPlace 19 = .ok (.invokevirtual 82, 3) := by decide +kernel
theorem dX10_evenPlace_22 : decode cX10_evenPlace 22 = .ok (.ifCond .ne 4, 3) := by decide +kernel
theorem dX10_evenPlace_25 : decode cX10_evenPlace 25 = .ok (.return_, 1) := by decide +kernel
theorem dX10_evenPlace_26 : decode cX10_evenPlace 26 = .ok (.aload_n 3, 1) := by decide +kernel
theorem dX10_evenPlace_27 : decode cX10_evenPlace 27 = .ok (.aload_n 0, 1) := by decide +kernel
theorem dX10_evenPlace_28 : decode cX10_evenPlace 28 = .ok (.getfield 38, 3) := by decide +kernel
theorem dX10_evenPlace_31 : decode cX10_evenPlace 31 = .ok (.invokevirtual 86, 3) := by decide +kernel
theorem dX10_evenPlace_34 : decode cX10_evenPlace 34 = .ok (.istore 4, 2) := by decide +kernel
theorem dX10_evenPlace_36 : decode cX10_evenPlace 36 = .ok (.aload_n 0, 1) := by decide +kernel
theorem dX10_evenPlace_37 : decode cX10_evenPlace 37 = .ok (.getfield 17, 3) := by decide +kernel
theorem dX10_evenPlace_40 : decode cX10_evenPlace 40 = .ok (.iload_n 1, 1) := by decide +kernel
theorem dX10_evenPlace_41 : decode cX10_evenPlace 41 = .ok (.iload 4, 2) := by decide +kernel
theorem dX10_evenPlace_43 : decode cX10_evenPlace 43 = .ok (.aload_n 0, 1) := by decide +kernel
theorem dX10_evenPlace_44 : decode cX10_evenPlace 44 = .ok (.getfield 38, 3) := by decide +kernel
theorem dX10_evenPlace_47 : decode cX10_evenPlace 47 = .ok (.iconst (-1), 1) := by decide +kernel
theorem dX10_evenPlace_48 : decode cX10_evenPlace 48 = .ok (.ixor, 1) := by decide +kernel
theorem dX10_evenPlace_49 : decode cX10_evenPlace 49 = .ok (.iand, 1) := by decide +kernel
theorem dX10_evenPlace_50 : decode cX10_evenPlace 50 = .ok (.invokestatic 90, 3) := by decide +kernel
theorem dX10_evenPlace_53 : decode cX10_evenPlace 53 = .ok (.aload_n 0, 1) := by decide +kernel
theorem dX10_evenPlace_54 : decode cX10_evenPlace 54 = .ok (.getfield 21, 3) := by decide +kernel
theorem dX10_evenPlace_57 : decode cX10_evenPlace 57 = .ok (.iload_n 1, 1) := by decide +kernel
theorem dX10_evenPlace_58 : decode cX10_evenPlace 58 = .ok (.aload_n 0, 1) := by decide +kernel
theorem dX10_evenPlace_59 : decode cX10_evenPlace 59 = .ok (.getfield 38, 3) := by decide +kernel
theorem dX10_evenPlace_62 : decode cX10_evenPlace 62 = .ok (.iload 4, 2) := by decide +kernel
theorem dX10_evenPlace_64 : decode cX10_evenPlace 64 = .ok (.iconst (-1), 1) := by decide +kernel
theorem dX10_evenPlace_65 : decode cX10_evenPlace 65 = .ok (.ixor, 1) := by decide +kernel
theorem dX10_evenPlace_66 : decode cX10_evenPlace 66 = .ok (.iand, 1) := by decide +kernel
theorem dX10_evenPlace_67 : decode cX10_evenPlace 67 = .ok (.invokestatic 90, 3) := by decide +kernel
theorem dX10_evenPlace_70 : decode cX10_evenPlace 70 = .ok (.aload_n 0, 1) := by decide +kernel
theorem dX10_evenPlace_71 : decode cX10_evenPlace 71 = .ok (.iload 4, 2) := by decide +kernel
theorem dX10_evenPlace_73 : decode cX10_evenPlace 73 = .ok (.putfield 38, 3) := by decide +kernel
theorem dX10_evenPlace_76 : decode cX10_evenPlace 76 = .ok (.aload_n 0, 1) := by decide +kernel
theorem dX10_evenPlace_77 : decode cX10_evenPlace 77 = .ok (.dup, 1) := by decide +kernel
theorem dX10_evenPlace_78 : decode cX10_evenPlace 78 = .ok (.getfield 41, 3) := by decide +kernel
theorem dX10_evenPlace_81 : decode cX10_evenPlace 81 = .ok (.aload_n 3, 1) := by decide +kernel
theorem dX10_evenPlace_82 : decode cX10_evenPlace 82 = .ok (.getfield 94, 3) := by decide +kernel
theorem dX10_evenPlace_85 : decode cX10_evenPlace 85 = .ok (.isub, 1) := by decide +kernel
theorem dX10_evenPlace_86 : decode cX10_evenPlace 86 = .ok (.putfield 41, 3) := by decide +kernel
theorem dX10_evenPlace_89 : decode cX10_evenPlace 89 = .ok (.aload_n 0, 1) := by decide +kernel
theorem dX10_evenPlace_90 : decode cX10_evenPlace 90 = .ok (.dup, 1) := by decide +kernel
theorem dX10_evenPlace_91 : decode cX10_evenPlace 91 = .ok (.getfield 47, 3) := by decide +kernel
theorem dX10_evenPlace_94 : decode cX10_evenPlace 94 = .ok (.iconst 1, 1) := by decide +kernel
theorem dX10_evenPlace_95 : decode cX10_evenPlace 95 = .ok (.iload_n 1, 1) := by decide +kernel
theorem dX10_evenPlace_96 : decode cX10_evenPlace 96 = .ok (.ishl, 1) := by decide +kernel
theorem dX10_evenPlace_97 : decode cX10_evenPlace 97 = .ok (.ior, 1) := by decide +kernel
theorem dX10_evenPlace_98 : decode cX10_evenPlace 98 = .ok (.putfield 47, 3) := by decide +kernel
theorem dX10_evenPlace_101 : decode cX10_evenPlace 101 = .ok (.aload_n 3, 1) := by decide +kernel
theorem dX10_evenPlace_102 : decode cX10_evenPlace 102 = .ok (.getfield 97, 3) := by decide +kernel
theorem dX10_evenPlace_105 : decode cX10_evenPlace 105 = .ok (.ifCond .eq 15, 3) := by decide +kernel
theorem dX10_evenPlace_108 : decode cX10_evenPlace 108 = .ok (.aload_n 0, 1) := by decide +kernel
theorem dX10_evenPlace_109 : decode cX10_evenPlace 109 = .ok (.dup, 1) := by decide +kernel
theorem dX10_evenPlace_110 : decode cX10_evenPlace 110 = .ok (.getfield 56, 3) := by decide +kernel
theorem dX10_evenPlace_113 : decode cX10_evenPlace 113 = .ok (.iconst 1, 1) := by decide +kernel
theorem dX10_evenPlace_114 : decode cX10_evenPlace 114 = .ok (.iload_n 1, 1) := by decide +kernel
theorem dX10_evenPlace_115 : decode cX10_evenPlace 115 = .ok (.ishl, 1) := by decide +kernel
theorem dX10_evenPlace_116 : decode cX10_evenPlace 116 = .ok (.ior, 1) := by decide +kernel
theorem dX10_evenPlace_117 : decode cX10_evenPlace 117 = .ok (.putfield 56, 3) := by decide +kernel
theorem dX10_evenPlace_120 : decode cX10_evenPlace 120 = .ok (.iload_n 2, 1) := by decide +kernel
theorem dX10_evenPlace_121 : decode cX10_evenPlace 121 = .ok (.iload_n 1, 1) := by decide +kernel
theorem dX10_evenPlace_122 : decode cX10_evenPlace 122 = .ok (.invokestatic 101, 3) := by decide +kernel
theorem dX10_evenPlace_125 : decode cX10_evenPlace 125 = .ok (.ifCond .eq 8, 3) := by decide +kernel
theorem dX10_evenPlace_128 : decode cX10_evenPlace 128 = .ok (.aload_n 0, 1) := by decide +kernel
theorem dX10_evenPlace_129 : decode cX10_evenPlace 129 = .ok (.iload_n 1, 1) := by decide +kernel
theorem dX10_evenPlace_130 : decode cX10_evenPlace 130 = .ok (.invokevirtual 104, 3) := by decide +kernel
theorem dX10_evenPlace_133 : decode cX10_evenPlace 133 = .ok (.return_, 1) := by decide +kernel
theorem dX10_nailAt_0 : decode cX10_nailAt 0 = .ok (.aload_n 0, 1) := by decide +kernel
theorem dX10_nailAt_1 : decode cX10_nailAt 1 = .ok (.getfield 24, 3) := by decide +kernel
theorem dX10_nailAt_4 : decode cX10_nailAt 4 = .ok (.ifnonnull 7, 3) := by decide +kernel
theorem dX10_nailAt_7 : decode cX10_nailAt 7 = .ok (.iconst 0, 1) := by decide +kernel
theorem dX10_nailAt_8 : decode cX10_nailAt 8 = .ok (.goto 11, 3) := by decide +kernel
theorem dX10_nailAt_11 : decode cX10_nailAt 11 = .ok (.aload_n 0, 1) := by decide +kernel
theorem dX10_nailAt_12 : decode cX10_nailAt 12 = .ok (.getfield 24, 3) := by decide +kernel
theorem dX10_nailAt_15 : decode cX10_nailAt 15 = .ok (.iload_n 1, 1) := by decide +kernel
theorem dX10_nailAt_16 : decode cX10_nailAt 16 = .ok (.invokevirtual 107, 3) := by decide +kernel
theorem dX10_nailAt_19 : decode cX10_nailAt 19 = .ok (.istore_n 2, 1) := by decide +kernel
theorem dX10_nailAt_20 : decode cX10_nailAt 20 = .ok (.aload_n 0, 1) := by decide +kernel
theorem dX10_nailAt_21 : decode cX10_nailAt 21 = .ok (.getfield 41, 3) := by decide +kernel
theorem dX10_nailAt_24 : decode cX10_nailAt 24 = .ok (.iload_n 2, 1) := by decide +kernel
theorem dX10_nailAt_25 : decode cX10_nailAt 25 = .ok (.if_icmp .lt 47, 3) := by decide +kernel
theorem dX10_nailAt_28 : decode cX10_nailAt 28 = .ok (.aload_n 0, 1) := by decide +kernel
theorem dX10_nailAt_29 : decode cX10_nailAt 29 = .ok (.dup, 1) := by decide +kernel
theorem dX10_nailAt_30 : decode cX10_nailAt 30 = .ok (.getfield 41, 3) := by decide +kernel
theorem dX10_nailAt_33 : decode cX10_nailAt 33 = .ok (.iload_n 2, 1) := by decide +kernel
theorem dX10_nailAt_34 : decode cX10_nailAt 34 = .ok (.isub, 1) := by decide +kernel
theorem dX10_nailAt_35 : decode cX10_nailAt 35 = .ok (.putfield 41, 3) := by decide +kernel
theorem dX10_nailAt_38 : decode cX10_nailAt 38 = .ok (.aload_n 0, 1) := by decide +kernel
theorem dX10_nailAt_39 : decode cX10_nailAt 39 = .ok (.dup, 1) := by decide +kernel
theorem dX10_nailAt_40 : decode cX10_nailAt 40 = .ok (.getfield 44, 3) := by decide +kernel
theorem dX10_nailAt_43 : decode cX10_nailAt 43 = .ok (.iload_n 2, 1) := by decide +kernel
theorem dX10_nailAt_44 : decode cX10_nailAt 44 = .ok (.iadd, 1) := by decide +kernel
theorem dX10_nailAt_45 : decode cX10_nailAt 45 = .ok (.putfield 44, 3) := by decide +kernel
theorem dX10_nailAt_48 : decode cX10_nailAt 48 = .ok (.aload_n 0, 1) := by decide +kernel
theorem dX10_nailAt_49 : decode cX10_nailAt 49 = .ok (.dup, 1) := by decide +kernel
theorem dX10_nailAt_50 : decode cX10_nailAt 50 = .ok (.getfield 53, 3) := by decide +kernel
theorem dX10_nailAt_53 : decode cX10_nailAt 53 = .ok (.iconst 1, 1) := by decide +kernel
theorem dX10_nailAt_54 : decode cX10_nailAt 54 = .ok (.iload_n 1, 1) := by decide +kernel
theorem dX10_nailAt_55 : decode cX10_nailAt 55 = .ok (.ishl, 1) := by decide +kernel
theorem dX10_nailAt_56 : decode cX10_nailAt 56 = .ok (.ior, 1) := by decide +kernel
theorem dX10_nailAt_57 : decode cX10_nailAt 57 = .ok (.putfield 53, 3) := by decide +kernel
theorem dX10_nailAt_60 : decode cX10_nailAt 60 = .ok (.aload_n 0, 1) := by decide +kernel
theorem dX10_nailAt_61 : decode cX10_nailAt 61 = .ok (.dup, 1) := by decide +kernel
theorem dX10_nailAt_62 : decode cX10_nailAt 62 = .ok (.getfield 56, 3) := by decide +kernel
theorem dX10_nailAt_65 : decode cX10_nailAt 65 = .ok (.iconst 1, 1) := by decide +kernel
theorem dX10_nailAt_66 : decode cX10_nailAt 66 = .ok (.iload_n 1, 1) := by decide +kernel
theorem dX10_nailAt_67 : decode cX10_nailAt 67 = .ok (.ishl, 1) := by decide +kernel
theorem dX10_nailAt_68 : decode cX10_nailAt 68 = .ok (.ior, 1) := by decide +kernel
theorem dX10_nailAt_69 : decode cX10_nailAt 69 = .ok (.putfield 56, 3) := by decide +kernel
theorem dX10_nailAt_72 : decode cX10_nailAt 72 = .ok (.return_, 1) := by decide +kernel
theorem dX10_oddYear_0 : decode cX10_oddYear 0 = .ok (.aload_n 0, 1) := by decide +kernel
theorem dX10_oddYear_1 : decode cX10_oddYear 1 = .ok (.getfield 35, 3) := by decide +kernel
theorem dX10_oddYear_4 : decode cX10_oddYear 4 = .ok (.iconst 1, 1) := by decide +kernel
theorem dX10_oddYear_5 : decode cX10_oddYear 5 = .ok (.isub, 1) := by decide +kernel
theorem dX10_oddYear_6 : decode cX10_oddYear 6 = .ok (.istore_n 1, 1) := by decide +kernel
theorem dX10_oddYear_7 : decode cX10_oddYear 7 = .ok (.iload_n 1, 1) := by decide +kernel
theorem dX10_oddYear_8 : decode cX10_oddYear 8 = .ok (.ifCond .lt 51, 3) := by decide +kernel
theorem dX10_oddYear_11 : decode cX10_oddYear 11 = .ok (.aload_n 0, 1) := by decide +kernel
theorem dX10_oddYear_12 : decode cX10_oddYear 12 = .ok (.getfield 47, 3) := by decide +kernel
theorem dX10_oddYear_15 : decode cX10_oddYear 15 = .ok (.aload_n 0, 1) := by decide +kernel
theorem dX10_oddYear_16 : decode cX10_oddYear 16 = .ok (.getfield 56, 3) := by decide +kernel
theorem dX10_oddYear_19 : decode cX10_oddYear 19 = .ok (.iconst (-1), 1) := by decide +kernel
theorem dX10_oddYear_20 : decode cX10_oddYear 20 = .ok (.ixor, 1) := by decide +kernel
theorem dX10_oddYear_21 : decode cX10_oddYear 21 = .ok (.iand, 1) := by decide +kernel
theorem dX10_oddYear_22 : decode cX10_oddYear 22 = .ok (.iload_n 1, 1) := by decide +kernel
theorem dX10_oddYear_23 : decode cX10_oddYear 23 = .ok (.invokestatic 101, 3) := by decide +kernel
theorem dX10_oddYear_26 : decode cX10_oddYear 26 = .ok (.ifCond .eq 27, 3) := by decide +kernel
theorem dX10_oddYear_29 : decode cX10_oddYear 29 = .ok (.aload_n 0, 1) := by decide +kernel
theorem dX10_oddYear_30 : decode cX10_oddYear 30 = .ok (.iload_n 1, 1) := by decide +kernel
theorem dX10_oddYear_31 : decode cX10_oddYear 31 = .ok (.invokevirtual 110, 3) := by decide +kernel
theorem dX10_oddYear_34 : decode cX10_oddYear 34 = .ok (.ifCond .ne 19, 3) := by decide +kernel
theorem dX10_oddYear_37 : decode cX10_oddYear 37 = .ok (.aload_n 0, 1) := by decide +kernel
theorem dX10_oddYear_38 : decode cX10_oddYear 38 = .ok (.iload_n 1, 1) := by decide +kernel
theorem dX10_oddYear_39 : decode cX10_oddYear 39 = .ok (.invokevirtual 114, 3) := by decide +kernel
theorem dX10_oddYear_42 : decode cX10_oddYear 42 = .ok (.aload_n 0, 1) := by decide +kernel
theorem dX10_oddYear_43 : decode cX10_oddYear 43 = .ok (.getfield 34, 3) := by decide +kernel
theorem dX10_oddYear_46 : decode cX10_oddYear 46 = .ok (.ifCond .ne 7, 3) := by decide +kernel
theorem dX10_oddYear_49 : decode cX10_oddYear 49 = .ok (.aload_n 0, 1) := by decide +kernel
theorem dX10_oddYear_50 : decode cX10_oddYear 50 = .ok (.invokevirtual 117, 3) := by decide +kernel
theorem dX10_oddYear_53 : decode cX10_oddYear 53 = .ok (.iinc 1 (-1), 3) := by decide +kernel
theorem dX10_oddYear_56 : decode cX10_oddYear 56 = .ok (.goto (-49), 3) := by decide +kernel
theorem dX10_oddYear_59 : decode cX10_oddYear 59 = .ok (.return_, 1) := by decide +kernel
theorem dX10_stays_0 : decode cX10_stays 0 = .ok (.aload_n 0, 1) := by decide +kernel
theorem dX10_stays_1 : decode cX10_stays 1 = .ok (.getfield 34, 3) := by decide +kernel
theorem dX10_stays_4 : decode cX10_stays 4 = .ok (.iconst 1, 1) := by decide +kernel
theorem dX10_stays_5 : decode cX10_stays 5 = .ok (.if_icmp .eq 5, 3) := by decide +kernel
theorem dX10_stays_8 : decode cX10_stays 8 = .ok (.iconst 0, 1) := by decide +kernel
theorem dX10_stays_9 : decode cX10_stays 9 = .ok (.ireturn, 1) := by decide +kernel
theorem dX10_stays_10 : decode cX10_stays 10 = .ok (.aload_n 0, 1) := by decide +kernel
theorem dX10_stays_11 : decode cX10_stays 11 = .ok (.getfield 17, 3) := by decide +kernel
theorem dX10_stays_14 : decode cX10_stays 14 = .ok (.iload_n 1, 1) := by decide +kernel
theorem dX10_stays_15 : decode cX10_stays 15 = .ok (.invokestatic 120, 3) := by decide +kernel
theorem dX10_stays_18 : decode cX10_stays 18 = .ok (.aload_n 0, 1) := by decide +kernel
theorem dX10_stays_19 : decode cX10_stays 19 = .ok (.getfield 21, 3) := by decide +kernel
theorem dX10_stays_22 : decode cX10_stays 22 = .ok (.iload_n 1, 1) := by decide +kernel
theorem dX10_stays_23 : decode cX10_stays 23 = .ok (.invokestatic 120, 3) := by decide +kernel
theorem dX10_stays_26 : decode cX10_stays 26 = .ok (.ior, 1) := by decide +kernel
theorem dX10_stays_27 : decode cX10_stays 27 = .ok (.istore_n 2, 1) := by decide +kernel
theorem dX10_stays_28 : decode cX10_stays 28 = .ok (.iload_n 1, 1) := by decide +kernel
theorem dX10_stays_29 : decode cX10_stays 29 = .ok (.iconst 1, 1) := by decide +kernel
theorem dX10_stays_30 : decode cX10_stays 30 = .ok (.iadd, 1) := by decide +kernel
theorem dX10_stays_31 : decode cX10_stays 31 = .ok (.istore_n 3, 1) := by decide +kernel
theorem dX10_stays_32 : decode cX10_stays 32 = .ok (.iload_n 3, 1) := by decide +kernel
theorem dX10_stays_33 : decode cX10_stays 33 = .ok (.aload_n 0, 1) := by decide +kernel
theorem dX10_stays_34 : decode cX10_stays 34 = .ok (.getfield 35, 3) := by decide +kernel
theorem dX10_stays_37 : decode cX10_stays 37 = .ok (.if_icmp .ge 44, 3) := by decide +kernel
theorem dX10_stays_40 : decode cX10_stays 40 = .ok (.aload_n 0, 1) := by decide +kernel
theorem dX10_stays_41 : decode cX10_stays 41 = .ok (.iload_n 3, 1) := by decide +kernel
theorem dX10_stays_42 : decode cX10_stays 42 = .ok (.invokevirtual 78, 3) := by decide +kernel
theorem dX10_stays_45 : decode cX10_stays 45 = .ok (.astore 4, 2) := by decide +kernel
theorem dX10_stays_47 : decode cX10_stays 47 = .ok (.aload 4, 2) := by decide +kernel
theorem dX10_stays_49 : decode cX10_stays 49 = .ok (.ifnull 26, 3) := by decide +kernel
theorem dX10_stays_52 : decode cX10_stays 52 = .ok (.aload_n 0, 1) := by decide +kernel
theorem dX10_stays_53 : decode cX10_stays 53 = .ok (.getfield 56, 3) := by decide +kernel
theorem dX10_stays_56 : decode cX10_stays 56 = .ok (.iload_n 3, 1) := by decide +kernel
theorem dX10_stays_57 : decode cX10_stays 57 = .ok (.invokestatic 101, 3) := by decide +kernel
theorem dX10_stays_60 : decode cX10_stays 60 = .ok (.ifCond .eq 15, 3) := by decide +kernel
theorem dX10_stays_63 : decode cX10_stays 63 = .ok (.aload 4, 2) := by decide +kernel
theorem dX10_stays_65 : decode cX10_stays 65 = .ok (.getfield 124, 3) := by decide +kernel
theorem dX10_stays_68 : decode cX10_stays 68 = .ok (.iload_n 2, 1) := by decide +kernel
theorem dX10_stays_69 : decode cX10_stays 69 = .ok (.iand, 1) := by decide +kernel
theorem dX10_stays_70 : decode cX10_stays 70 = .ok (.ifCond .eq 5, 3) := by decide +kernel
theorem dX10_stays_73 : decode cX10_stays 73 = .ok (.iconst 1, 1) := by decide +kernel
theorem dX10_stays_74 : decode cX10_stays 74 = .ok (.ireturn, 1) := by decide +kernel
theorem dX10_stays_75 : decode cX10_stays 75 = .ok (.iinc 3 1, 3) := by decide +kernel
theorem dX10_stays_78 : decode cX10_stays 78 = .ok (.goto (-46), 3) := by decide +kernel
theorem dX10_stays_81 : decode cX10_stays 81 = .ok (.iconst 0, 1) := by decide +kernel
theorem dX10_stays_82 : decode cX10_stays 82 = .ok (.ireturn, 1) := by decide +kernel
theorem dX10_letFall_0 : decode cX10_letFall 0 = .ok (.iconst 1, 1) := by decide +kernel
theorem dX10_letFall_1 : decode cX10_letFall 1 = .ok (.istore_n 1, 1) := by decide +kernel
theorem dX10_letFall_2 : decode cX10_letFall 2 = .ok (.iconst 0, 1) := by decide +kernel
theorem dX10_letFall_3 : decode cX10_letFall 3 = .ok (.istore_n 2, 1) := by decide +kernel
theorem dX10_letFall_4 : decode cX10_letFall 4 = .ok (.iload_n 2, 1) := by decide +kernel
theorem dX10_letFall_5 : decode cX10_letFall 5 = .ok (.aload_n 0, 1) := by decide +kernel
theorem dX10_letFall_6 : decode cX10_letFall 6 = .ok (.getfield 35, 3) := by decide +kernel
theorem dX10_letFall_9 : decode cX10_letFall 9 = .ok (.if_icmp .gt 93, 3) := by decide +kernel
theorem dX10_letFall_12 : decode cX10_letFall 12 = .ok (.iload_n 1, 1) := by decide +kernel
theorem dX10_letFall_13 : decode cX10_letFall 13 = .ok (.ifCond .eq 89, 3) := by decide +kernel
theorem dX10_letFall_16 : decode cX10_letFall 16 = .ok (.iconst 0, 1) := by decide +kernel
theorem dX10_letFall_17 : decode cX10_letFall 17 = .ok (.istore_n 1, 1) := by decide +kernel
theorem dX10_letFall_18 : decode cX10_letFall 18 = .ok (.aload_n 0, 1) := by decide +kernel
theorem dX10_letFall_19 : decode cX10_letFall 19 = .ok (.getfield 35, 3) := by decide +kernel
theorem dX10_letFall_22 : decode cX10_letFall 22 = .ok (.iconst 1, 1) := by decide +kernel
theorem dX10_letFall_23 : decode cX10_letFall 23 = .ok (.isub, 1) := by decide +kernel
theorem dX10_letFall_24 : decode cX10_letFall 24 = .ok (.istore_n 3, 1) := by decide +kernel
theorem dX10_letFall_25 : decode cX10_letFall 25 = .ok (.iload_n 3, 1) := by decide +kernel
theorem dX10_letFall_26 : decode cX10_letFall 26 = .ok (.ifCond .lt 70, 3) := by decide +kernel
theorem dX10_letFall_29 : decode cX10_letFall 29 = .ok (.aload_n 0, 1) := by decide +kernel
theorem dX10_letFall_30 : decode cX10_letFall 30 = .ok (.iload_n 3, 1) := by decide +kernel
theorem dX10_letFall_31 : decode cX10_letFall 31 = .ok (.invokevirtual 78, 3) := by decide +kernel
theorem dX10_letFall_34 : decode cX10_letFall 34 = .ok (.astore 4, 2) := by decide +kernel
theorem dX10_letFall_36 : decode cX10_letFall 36 = .ok (.aload 4, 2) := by decide +kernel
theorem dX10_letFall_38 : decode cX10_letFall 38 = .ok (.ifnull 52, 3) := by decide +kernel
theorem dX10_letFall_41 : decode cX10_letFall 41 = .ok (.aload_n 0, 1) := by decide +kernel
theorem dX10_letFall_42 : decode cX10_letFall 42 = .ok (.getfield 56, 3) := by decide +kernel
theorem dX10_letFall_45 : decode cX10_letFall 45 = .ok (.aload_n 0, 1) := by decide +kernel
theorem dX10_letFall_46 : decode cX10_letFall 46 = .ok (.getfield 50, 3) := by decide +kernel
theorem dX10_letFall_49 : decode cX10_letFall 49 = .ok (.iconst (-1), 1) := by decide +kernel
theorem dX10_letFall_50 : decode cX10_letFall 50 = .ok (.ixor, 1) := by decide +kernel
theorem dX10_letFall_51 : decode cX10_letFall 51 = .ok (.iand, 1) := by decide +kernel
theorem dX10_letFall_52 : decode cX10_letFall 52 = .ok (.iload_n 3, 1) := by decide +kernel
theorem dX10_letFall_53 : decode cX10_letFall 53 = .ok (.invokestatic 101, 3) := by decide +kernel
theorem dX10_letFall_56 : decode cX10_letFall 56 = .ok (.ifCond .eq 34, 3) := by decide +kernel
theorem dX10_letFall_59 : decode cX10_letFall 59 = .ok (.aload 4, 2) := by decide +kernel
theorem dX10_letFall_61 : decode cX10_letFall 61 = .ok (.aload_n 0, 1) := by decide +kernel
theorem dX10_letFall_62 : decode cX10_letFall 62 = .ok (.getfield 38, 3) := by decide +kernel
theorem dX10_letFall_65 : decode cX10_letFall 65 = .ok (.invokevirtual 127, 3) := by decide +kernel
theorem dX10_letFall_68 : decode cX10_letFall 68 = .ok (.ifCond .ne 22, 3) := by decide +kernel
theorem dX10_letFall_71 : decode cX10_letFall 71 = .ok (.aload_n 0, 1) := by decide +kernel
theorem dX10_letFall_72 : decode cX10_letFall 72 = .ok (.iload_n 3, 1) := by decide +kernel
theorem dX10_letFall_73 : decode cX10_letFall 73 = .ok (.invokevirtual 114, 3) := by decide +kernel
theorem dX10_letFall_76 : decode cX10_letFall 76 = .ok (.aload_n 0, 1) := by decide +kernel
theorem dX10_letFall_77 : decode cX10_letFall 77 = .ok (.dup, 1) := by decide +kernel
theorem dX10_letFall_78 : decode cX10_letFall 78 = .ok (.getfield 59, 3) := by decide +kernel
theorem dX10_letFall_81 : decode cX10_letFall 81 = .ok (.iconst 1, 1) := by decide +kernel
theorem dX10_letFall_82 : decode cX10_letFall 82 = .ok (.iload_n 3, 1) := by decide +kernel
theorem dX10_letFall_83 : decode cX10_letFall 83 = .ok (.ishl, 1) := by decide +kernel
theorem dX10_letFall_84 : decode cX10_letFall 84 = .ok (.ior, 1) := by decide +kernel
theorem dX10_letFall_85 : decode cX10_letFall 85 = .ok (.putfield 59, 3) := by decide +kernel
theorem dX10_letFall_88 : decode cX10_letFall 88 = .ok (.iconst 1, 1) := by decide +kernel
theorem dX10_letFall_89 : decode cX10_letFall 89 = .ok (.istore_n 1, 1) := by decide +kernel
theorem dX10_letFall_90 : decode cX10_letFall 90 = .ok (.iinc 3 (-1), 3) := by decide +kernel
theorem dX10_letFall_93 : decode cX10_letFall 93 = .ok (.goto (-68), 3) := by decide +kernel
theorem dX10_letFall_96 : decode cX10_letFall 96 = .ok (.iinc 2 1, 3) := by decide +kernel
theorem dX10_letFall_99 : decode cX10_letFall 99 = .ok (.goto (-95), 3) := by decide +kernel
theorem dX10_letFall_102 : decode cX10_letFall 102 = .ok (.return_, 1) := by decide +kernel
theorem dX10_undo_0 : decode cX10_undo 0 = .ok (.aload_n 0, 1) := by decide +kernel
theorem dX10_undo_1 : decode cX10_undo 1 = .ok (.iload_n 1, 1) := by decide +kernel
theorem dX10_undo_2 : decode cX10_undo 2 = .ok (.invokevirtual 78, 3) := by decide +kernel
theorem dX10_undo_5 : decode cX10_undo 5 = .ok (.astore_n 2, 1) := by decide +kernel
theorem dX10_undo_6 : decode cX10_undo 6 = .ok (.aload_n 2, 1) := by decide +kernel
theorem dX10_undo_7 : decode cX10_undo 7 = .ok (.ifnull 62, 3) := by decide +kernel
theorem dX10_undo_10 : decode cX10_undo 10 = .ok (.aload_n 0, 1) := by decide +kernel
theorem dX10_undo_11 : decode cX10_undo 11 = .ok (.aload_n 0, 1) := by decide +kernel
theorem dX10_undo_12 : decode cX10_undo 12 = .ok (.getfield 38, 3) := by decide +kernel
theorem dX10_undo_15 : decode cX10_undo 15 = .ok (.aload_n 0, 1) := by decide +kernel
theorem dX10_undo_16 : decode cX10_undo 16 = .ok (.getfield 17, 3) := by decide +kernel
theorem dX10_undo_19 : decode cX10_undo 19 = .ok (.iload_n 1, 1) := by decide +kernel
theorem dX10_undo_20 : decode cX10_undo 20 = .ok (.invokestatic 120, 3) := by decide +kernel
theorem dX10_undo_23 : decode cX10_undo 23 = .ok (.iconst (-1), 1) := by decide +kernel
theorem dX10_undo_24 : decode cX10_undo 24 = .ok (.ixor, 1) := by decide +kernel
theorem dX10_undo_25 : decode cX10_undo 25 = .ok (.iand, 1) := by decide +kernel
theorem dX10_undo_26 : decode cX10_undo 26 = .ok (.aload_n 0, 1) := by decide +kernel
theorem dX10_undo_27 : decode cX10_undo 27 = .ok (.getfield 21, 3) := by decide +kernel
theorem dX10_undo_30 : decode cX10_undo 30 = .ok (.iload_n 1, 1) := by decide +kernel
theorem dX10_undo_31 : decode cX10_undo 31 = .ok (.invokestatic 120, 3) := by decide +kernel
theorem dX10_undo_34 : decode cX10_undo 34 = .ok (.ior, 1) := by decide +kernel
theorem dX10_undo_35 : decode cX10_undo 35 = .ok (.putfield 38, 3) := by decide +kernel
theorem dX10_undo_38 : decode cX10_undo 38 = .ok (.aload_n 0, 1) := by decide +kernel
theorem dX10_undo_39 : decode cX10_undo 39 = .ok (.sipush 9999, 3) := by decide +kernel
theorem dX10_undo_42 : decode cX10_undo 42 = .ok (.aload_n 0, 1) := by decide +kernel
theorem dX10_undo_43 : decode cX10_undo 43 = .ok (.getfield 41, 3) := by decide +kernel
theorem dX10_undo_46 : decode cX10_undo 46 = .ok (.aload_n 2, 1) := by decide +kernel
theorem dX10_undo_47 : decode cX10_undo 47 = .ok (.getfield 130, 3) := by decide +kernel
theorem dX10_undo_50 : decode cX10_undo 50 = .ok (.iadd, 1) := by decide +kernel
theorem dX10_undo_51 : decode cX10_undo 51 = .ok (.invokestatic 133, 3) := by decide +kernel
theorem dX10_undo_54 : decode cX10_undo 54 = .ok (.putfield 41, 3) := by decide +kernel
theorem dX10_undo_57 : decode cX10_undo 57 = .ok (.aload_n 0, 1) := by decide +kernel
theorem dX10_undo_58 : decode cX10_undo 58 = .ok (.dup, 1) := by decide +kernel
theorem dX10_undo_59 : decode cX10_undo 59 = .ok (.getfield 50, 3) := by decide +kernel
theorem dX10_undo_62 : decode cX10_undo 62 = .ok (.iconst 1, 1) := by decide +kernel
theorem dX10_undo_63 : decode cX10_undo 63 = .ok (.iload_n 1, 1) := by decide +kernel
theorem dX10_undo_64 : decode cX10_undo 64 = .ok (.ishl, 1) := by decide +kernel
theorem dX10_undo_65 : decode cX10_undo 65 = .ok (.ior, 1) := by decide +kernel
theorem dX10_undo_66 : decode cX10_undo 66 = .ok (.putfield 50, 3) := by decide +kernel
theorem dX10_undo_69 : decode cX10_undo 69 = .ok (.return_, 1) := by decide +kernel
theorem dX10_standing_0 : decode cX10_standing 0 = .ok (.aload_n 0, 1) := by decide +kernel
theorem dX10_standing_1 : decode cX10_standing 1 = .ok (.getfield 47, 3) := by decide +kernel
theorem dX10_standing_4 : decode cX10_standing 4 = .ok (.aload_n 0, 1) := by decide +kernel
theorem dX10_standing_5 : decode cX10_standing 5 = .ok (.getfield 50, 3) := by decide +kernel
theorem dX10_standing_8 : decode cX10_standing 8 = .ok (.iconst (-1), 1) := by decide +kernel
theorem dX10_standing_9 : decode cX10_standing 9 = .ok (.ixor, 1) := by decide +kernel
theorem dX10_standing_10 : decode cX10_standing 10 = .ok (.iand, 1) := by decide +kernel
theorem dX10_standing_11 : decode cX10_standing 11 = .ok (.ireturn, 1) := by decide +kernel
theorem dX10_fate_0 : decode cX10_fate 0 = .ok (.aload_n 0, 1) := by decide +kernel
theorem dX10_fate_1 : decode cX10_fate 1 = .ok (.getfield 47, 3) := by decide +kernel
theorem dX10_fate_4 : decode cX10_fate 4 = .ok (.iload_n 1, 1) := by decide +kernel
theorem dX10_fate_5 : decode cX10_fate 5 = .ok (.invokestatic 101, 3) := by decide +kernel
theorem dX10_fate_8 : decode cX10_fate 8 = .ok (.ifCond .ne 5, 3) := by decide +kernel
theorem dX10_fate_11 : decode cX10_fate 11 = .ok (.iconst 0, 1) := by decide +kernel
theorem dX10_fate_12 : decode cX10_fate 12 = .ok (.ireturn, 1) := by decide +kernel
theorem dX10_fate_13 : decode cX10_fate 13 = .ok (.aload_n 0, 1) := by decide +kernel
theorem dX10_fate_14 : decode cX10_fate 14 = .ok (.getfield 50, 3) := by decide +kernel
theorem dX10_fate_17 : decode cX10_fate 17 = .ok (.iload_n 1, 1) := by decide +kernel
theorem dX10_fate_18 : decode cX10_fate 18 = .ok (.invokestatic 101, 3) := by decide +kernel
theorem dX10_fate_21 : decode cX10_fate 21 = .ok (.ifCond .eq 20, 3) := by decide +kernel
theorem dX10_fate_24 : decode cX10_fate 24 = .ok (.aload_n 0, 1) := by decide +kernel
theorem dX10_fate_25 : decode cX10_fate 25 = .ok (.getfield 59, 3) := by decide +kernel
theorem dX10_fate_28 : decode cX10_fate 28 = .ok (.iload_n 1, 1) := by decide +kernel
theorem dX10_fate_29 : decode cX10_fate 29 = .ok (.invokestatic 101, 3) := by decide +kernel
theorem dX10_fate_32 : decode cX10_fate 32 = .ok (.ifCond .eq 7, 3) := by decide +kernel
theorem dX10_fate_35 : decode cX10_fate 35 = .ok (.iconst 5, 1) := by decide +kernel
theorem dX10_fate_36 : decode cX10_fate 36 = .ok (.goto 4, 3) := by decide +kernel
theorem dX10_fate_39 : decode cX10_fate 39 = .ok (.iconst 1, 1) := by decide +kernel
theorem dX10_fate_40 : decode cX10_fate 40 = .ok (.ireturn, 1) := by decide +kernel
theorem dX10_fate_41 : decode cX10_fate 41 = .ok (.aload_n 0, 1) := by decide +kernel
theorem dX10_fate_42 : decode cX10_fate 42 = .ok (.getfield 53, 3) := by decide +kernel
theorem dX10_fate_45 : decode cX10_fate 45 = .ok (.iload_n 1, 1) := by decide +kernel
theorem dX10_fate_46 : decode cX10_fate 46 = .ok (.invokestatic 101, 3) := by decide +kernel
theorem dX10_fate_49 : decode cX10_fate 49 = .ok (.ifCond .eq 5, 3) := by decide +kernel
theorem dX10_fate_52 : decode cX10_fate 52 = .ok (.iconst 2, 1) := by decide +kernel
theorem dX10_fate_53 : decode cX10_fate 53 = .ok (.ireturn, 1) := by decide +kernel
theorem dX10_fate_54 : decode cX10_fate 54 = .ok (.aload_n 0, 1) := by decide +kernel
theorem dX10_fate_55 : decode cX10_fate 55 = .ok (.getfield 56, 3) := by decide +kernel
theorem dX10_fate_58 : decode cX10_fate 58 = .ok (.iload_n 1, 1) := by decide +kernel
theorem dX10_fate_59 : decode cX10_fate 59 = .ok (.invokestatic 101, 3) := by decide +kernel
theorem dX10_fate_62 : decode cX10_fate 62 = .ok (.ifCond .eq 7, 3) := by decide +kernel
theorem dX10_fate_65 : decode cX10_fate 65 = .ok (.iconst 3, 1) := by decide +kernel
theorem dX10_fate_66 : decode cX10_fate 66 = .ok (.goto 4, 3) := by decide +kernel
theorem dX10_fate_69 : decode cX10_fate 69 = .ok (.iconst 4, 1) := by decide +kernel
theorem dX10_fate_70 : decode cX10_fate 70 = .ok (.ireturn, 1) := by decide +kernel
theorem dX10_leastNails_0 : decode cX10_leastNails 0 = .ok (.bipush (-4), 2) := by decide +kernel
theorem dX10_leastNails_2 : decode cX10_leastNails 2 = .ok (.istore_n 2, 1) := by decide +kernel
theorem dX10_leastNails_3 : decode cX10_leastNails 3 = .ok (.iconst 0, 1) := by decide +kernel
theorem dX10_leastNails_4 : decode cX10_leastNails 4 = .ok (.istore_n 3, 1) := by decide +kernel
theorem dX10_leastNails_5 : decode cX10_leastNails 5 = .ok (.iconst 0, 1) := by decide +kernel
theorem dX10_leastNails_6 : decode cX10_leastNails 6 = .ok (.istore 4, 2) := by decide +kernel
theorem dX10_leastNails_8 : decode cX10_leastNails 8 = .ok (.iload 4, 2) := by decide +kernel
theorem dX10_leastNails_10 : decode cX10_leastNails 10 = .ok (.iconst 1, 1) := by decide +kernel
theorem dX10_leastNails_11 : decode cX10_leastNails 11 = .ok (.aload_n 0, 1) := by decide +kernel
theorem dX10_leastNails_12 : decode cX10_leastNails 12 = .ok (.getfield 35, 3) := by decide +kernel
theorem dX10_leastNails_15 : decode cX10_leastNails 15 = .ok (.ishl, 1) := by decide +kernel
theorem dX10_leastNails_16 : decode cX10_leastNails 16 = .ok (.if_icmp .ge 75, 3) := by decide +kernel
theorem dX10_leastNails_19 : decode cX10_leastNails 19 = .ok (.iload_n 2, 1) := by decide +kernel
theorem dX10_leastNails_20 : decode cX10_leastNails 20 = .ok (.ifCond .ge 7, 3) := by decide +kernel
theorem dX10_leastNails_23 : decode cX10_leastNails 23 = .ok (.iconst 1, 1) := by decide +kernel
theorem dX10_leastNails_24 : decode cX10_leastNails 24 = .ok (.goto 13, 3) := by decide +kernel
theorem dX10_leastNails_27 : decode cX10_leastNails 27 = .ok (.iload_n 2, 1) := by decide +kernel
theorem dX10_leastNails_28 : decode cX10_leastNails 28 = .ok (.invokestatic 139, 3) := by decide +kernel
theorem dX10_leastNails_31 : decode cX10_leastNails 31 = .ok (.iload 4, 2) := by decide +kernel
theorem dX10_leastNails_33 : decode cX10_leastNails 33 = .ok (.invokestatic 139, 3) := by decide +kernel
theorem dX10_leastNails_36 : decode cX10_leastNails 36 = .ok (.isub, 1) := by decide +kernel
theorem dX10_leastNails_37 : decode cX10_leastNails 37 = .ok (.istore 5, 2) := by decide +kernel
theorem dX10_leastNails_39 : decode cX10_leastNails 39 = .ok (.iload 5, 2) := by decide +kernel
theorem dX10_leastNails_41 : decode cX10_leastNails 41 = .ok (.ifCond .ge 6, 3) := by decide +kernel
theorem dX10_leastNails_44 : decode cX10_leastNails 44 = .ok (.goto 41, 3) := by decide +kernel
theorem dX10_leastNails_47 : decode cX10_leastNails 47 = .ok (.aload_n 0, 1) := by decide +kernel
theorem dX10_leastNails_48 : decode cX10_leastNails 48 = .ok (.iload 4, 2) := by decide +kernel
theorem dX10_leastNails_50 : decode cX10_leastNails 50 = .ok (.invokevirtual 144, 3) := by decide +kernel
theorem dX10_leastNails_53 : decode cX10_leastNails 53 = .ok (.iload_n 1, 1) := by decide +kernel
theorem dX10_leastNails_54 : decode cX10_leastNails 54 = .ok (.aload_n 0, 1) := by decide +kernel
theorem dX10_leastNails_55 : decode cX10_leastNails 55 = .ok (.getfield 38, 3) := by decide +kernel
theorem dX10_leastNails_58 : decode cX10_leastNails 58 = .ok (.iconst (-1), 1) := by decide +kernel
theorem dX10_leastNails_59 : decode cX10_leastNails 59 = .ok (.ixor, 1) := by decide +kernel
theorem dX10_leastNails_60 : decode cX10_leastNails 60 = .ok (.iand, 1) := by decide +kernel
theorem dX10_leastNails_61 : decode cX10_leastNails 61 = .ok (.ifCond .ne 24, 3) := by decide +kernel
theorem dX10_leastNails_64 : decode cX10_leastNails 64 = .ok (.iload 5, 2) := by decide +kernel
theorem dX10_leastNails_66 : decode cX10_leastNails 66 = .ok (.ifCond .gt 11, 3) := by decide +kernel
theorem dX10_leastNails_69 : decode cX10_leastNails 69 = .ok (.aload_n 0, 1) := by decide +kernel
theorem dX10_leastNails_70 : decode cX10_leastNails 70 = .ok (.getfield 44, 3) := by decide +kernel
theorem dX10_leastNails_73 : decode cX10_leastNails 73 = .ok (.iload_n 3, 1) := by decide +kernel
theorem dX10_leastNails_74 : decode cX10_leastNails 74 = .ok (.if_icmp .ge 11, 3) := by decide +kernel
theorem dX10_leastNails_77 : decode cX10_leastNails 77 = .ok (.iload 4, 2) := by decide +kernel
theorem dX10_leastNails_79 : decode cX10_leastNails 79 = .ok (.istore_n 2, 1) := by decide +kernel
theorem dX10_leastNails_80 : decode cX10_leastNails 80 = .ok (.aload_n 0, 1) := by decide +kernel
theorem dX10_leastNails_81 : decode cX10_leastNails 81 = .ok (.getfield 44, 3) := by decide +kernel
theorem dX10_leastNails_84 : decode cX10_leastNails 84 = .ok (.istore_n 3, 1) := by decide +kernel
theorem dX10_leastNails_85 : decode cX10_leastNails 85 = .ok (.iinc 4 1, 3) := by decide +kernel
theorem dX10_leastNails_88 : decode cX10_leastNails 88 = .ok (.goto (-80), 3) := by decide +kernel
theorem dX10_leastNails_91 : decode cX10_leastNails 91 = .ok (.iload_n 2, 1) := by decide +kernel
theorem dX10_leastNails_92 : decode cX10_leastNails 92 = .ok (.ireturn, 1) := by decide +kernel
theorem dX10_has_0 : decode cX10_has 0 = .ok (.iload_n 0, 1) := by decide +kernel
theorem dX10_has_1 : decode cX10_has 1 = .ok (.iload_n 1, 1) := by decide +kernel
theorem dX10_has_2 : decode cX10_has 2 = .ok (.ishr, 1) := by decide +kernel
theorem dX10_has_3 : decode cX10_has 3 = .ok (.iconst 1, 1) := by decide +kernel
theorem dX10_has_4 : decode cX10_has 4 = .ok (.iand, 1) := by decide +kernel
theorem dX10_has_5 : decode cX10_has 5 = .ok (.ifCond .eq 7, 3) := by decide +kernel
theorem dX10_has_8 : decode cX10_has 8 = .ok (.iconst 1, 1) := by decide +kernel
theorem dX10_has_9 : decode cX10_has 9 = .ok (.goto 4, 3) := by decide +kernel
theorem dX10_has_12 : decode cX10_has 12 = .ok (.iconst 0, 1) := by decide +kernel
theorem dX10_has_13 : decode cX10_has 13 = .ok (.ireturn, 1) := by decide +kernel
theorem dJ6_bitCount_0f7a4_0 : decode cJ6_bitCount_0f7a4 0 = .ok (.iload_n 0, 1) := by decide +kernel
theorem dJ6_bitCount_0f7a4_1 : decode cJ6_bitCount_0f7a4 1 = .ok (.iload_n 0, 1) := by decide +kernel
theorem dJ6_bitCount_0f7a4_2 : decode cJ6_bitCount_0f7a4 2 = .ok (.iconst 1, 1) := by decide +kernel
theorem dJ6_bitCount_0f7a4_3 : decode cJ6_bitCount_0f7a4 3 = .ok (.iushr, 1) := by decide +kernel
theorem dJ6_bitCount_0f7a4_4 : decode cJ6_bitCount_0f7a4 4 = .ok (.ldc_w 265, 3) := by decide +kernel
theorem dJ6_bitCount_0f7a4_7 : decode cJ6_bitCount_0f7a4 7 = .ok (.iand, 1) := by decide +kernel
theorem dJ6_bitCount_0f7a4_8 : decode cJ6_bitCount_0f7a4 8 = .ok (.isub, 1) := by decide +kernel
theorem dJ6_bitCount_0f7a4_9 : decode cJ6_bitCount_0f7a4 9 = .ok (.istore_n 0, 1) := by decide +kernel
theorem dJ6_bitCount_0f7a4_10 : decode cJ6_bitCount_0f7a4 10 = .ok (.iload_n 0, 1) := by decide +kernel
theorem dJ6_bitCount_0f7a4_11 : decode cJ6_bitCount_0f7a4 11 = .ok (.ldc_w 266, 3) := by decide +kernel
theorem dJ6_bitCount_0f7a4_14 : decode cJ6_bitCount_0f7a4 14 = .ok (.iand, 1) := by decide +kernel
theorem dJ6_bitCount_0f7a4_15 : decode cJ6_bitCount_0f7a4 15 = .ok (.iload_n 0, 1) := by decide +kernel
theorem dJ6_bitCount_0f7a4_16 : decode cJ6_bitCount_0f7a4 16 = .ok (.iconst 2, 1) := by decide +kernel
theorem dJ6_bitCount_0f7a4_17 : decode cJ6_bitCount_0f7a4 17 = .ok (.iushr, 1) := by decide +kernel
theorem dJ6_bitCount_0f7a4_18 : decode cJ6_bitCount_0f7a4 18 = .ok (.ldc_w 266, 3) := by decide +kernel
theorem dJ6_bitCount_0f7a4_21 : decode cJ6_bitCount_0f7a4 21 = .ok (.iand, 1) := by decide +kernel
theorem dJ6_bitCount_0f7a4_22 : decode cJ6_bitCount_0f7a4 22 = .ok (.iadd, 1) := by decide +kernel
theorem dJ6_bitCount_0f7a4_23 : decode cJ6_bitCount_0f7a4 23 = .ok (.istore_n 0, 1) := by decide +kernel
theorem dJ6_bitCount_0f7a4_24 : decode cJ6_bitCount_0f7a4 24 = .ok (.iload_n 0, 1) := by decide +kernel
theorem dJ6_bitCount_0f7a4_25 : decode cJ6_bitCount_0f7a4 25 = .ok (.iload_n 0, 1) := by decide +kernel
theorem dJ6_bitCount_0f7a4_26 : decode cJ6_bitCount_0f7a4 26 = .ok (.iconst 4, 1) := by decide +kernel
theorem dJ6_bitCount_0f7a4_27 : decode cJ6_bitCount_0f7a4 27 = .ok (.iushr, 1) := by decide +kernel
theorem dJ6_bitCount_0f7a4_28 : decode cJ6_bitCount_0f7a4 28 = .ok (.iadd, 1) := by decide +kernel
theorem dJ6_bitCount_0f7a4_29 : decode cJ6_bitCount_0f7a4 29 = .ok (.ldc_w 267, 3) := by decide +kernel
theorem dJ6_bitCount_0f7a4_32 : decode cJ6_bitCount_0f7a4 32 = .ok (.iand, 1) := by decide +kernel
theorem dJ6_bitCount_0f7a4_33 : decode cJ6_bitCount_0f7a4 33 = .ok (.istore_n 0, 1) := by decide +kernel
theorem dJ6_bitCount_0f7a4_34 : decode cJ6_bitCount_0f7a4 34 = .ok (.iload_n 0, 1) := by decide +kernel
theorem dJ6_bitCount_0f7a4_35 : decode cJ6_bitCount_0f7a4 35 = .ok (.iload_n 0, 1) := by decide +kernel
theorem dJ6_bitCount_0f7a4_36 : decode cJ6_bitCount_0f7a4 36 = .ok (.bipush 8, 2) := by decide +kernel
theorem dJ6_bitCount_0f7a4_38 : decode cJ6_bitCount_0f7a4 38 = .ok (.iushr, 1) := by decide +kernel
theorem dJ6_bitCount_0f7a4_39 : decode cJ6_bitCount_0f7a4 39 = .ok (.iadd, 1) := by decide +kernel
theorem dJ6_bitCount_0f7a4_40 : decode cJ6_bitCount_0f7a4 40 = .ok (.istore_n 0, 1) := by decide +kernel
theorem dJ6_bitCount_0f7a4_41 : decode cJ6_bitCount_0f7a4 41 = .ok (.iload_n 0, 1) := by decide +kernel
theorem dJ6_bitCount_0f7a4_42 : decode cJ6_bitCount_0f7a4 42 = .ok (.iload_n 0, 1) := by decide +kernel
theorem dJ6_bitCount_0f7a4_43 : decode cJ6_bitCount_0f7a4 43 = .ok (.bipush 16, 2) := by decide +kernel
theorem dJ6_bitCount_0f7a4_45 : decode cJ6_bitCount_0f7a4 45 = .ok (.iushr, 1) := by decide +kernel
theorem dJ6_bitCount_0f7a4_46 : decode cJ6_bitCount_0f7a4 46 = .ok (.iadd, 1) := by decide +kernel
theorem dJ6_bitCount_0f7a4_47 : decode cJ6_bitCount_0f7a4 47 = .ok (.istore_n 0, 1) := by decide +kernel
theorem dJ6_bitCount_0f7a4_48 : decode cJ6_bitCount_0f7a4 48 = .ok (.iload_n 0, 1) := by decide +kernel
theorem dJ6_bitCount_0f7a4_49 : decode cJ6_bitCount_0f7a4 49 = .ok (.bipush 63, 2) := by decide +kernel
theorem dJ6_bitCount_0f7a4_51 : decode cJ6_bitCount_0f7a4 51 = .ok (.iand, 1) := by decide +kernel
theorem dJ6_bitCount_0f7a4_52 : decode cJ6_bitCount_0f7a4 52 = .ok (.ireturn, 1) := by decide +kernel
theorem dJ9_max_7cf53_0 : decode cJ9_max_7cf53 0 = .ok (.iload_n 0, 1) := by decide +kernel
theorem dJ9_max_7cf53_1 : decode cJ9_max_7cf53 1 = .ok (.iload_n 1, 1) := by decide +kernel
theorem dJ9_max_7cf53_2 : decode cJ9_max_7cf53 2 = .ok (.if_icmp .lt 7, 3) := by decide +kernel
theorem dJ9_max_7cf53_5 : decode cJ9_max_7cf53 5 = .ok (.iload_n 0, 1) := by decide +kernel
theorem dJ9_max_7cf53_6 : decode cJ9_max_7cf53 6 = .ok (.goto 4, 3) := by decide +kernel
theorem dJ9_max_7cf53_9 : decode cJ9_max_7cf53 9 = .ok (.iload_n 1, 1) := by decide +kernel
theorem dJ9_max_7cf53_10 : decode cJ9_max_7cf53 10 = .ok (.ireturn, 1) := by decide +kernel
theorem dJ9_min_7cf53_0 : decode cJ9_min_7cf53 0 = .ok (.iload_n 0, 1) := by decide +kernel
theorem dJ9_min_7cf53_1 : decode cJ9_min_7cf53 1 = .ok (.iload_n 1, 1) := by decide +kernel
theorem dJ9_min_7cf53_2 : decode cJ9_min_7cf53 2 = .ok (.if_icmp .gt 7, 3) := by decide +kernel
theorem dJ9_min_7cf53_5 : decode cJ9_min_7cf53 5 = .ok (.iload_n 0, 1) := by decide +kernel
theorem dJ9_min_7cf53_6 : decode cJ9_min_7cf53 6 = .ok (.goto 4, 3) := by decide +kernel
theorem dJ9_min_7cf53_9 : decode cJ9_min_7cf53 9 = .ok (.iload_n 1, 1) := by decide +kernel
theorem dJ9_min_7cf53_10 : decode cJ9_min_7cf53 10 = .ok (.ireturn, 1) := by decide +kernel
end
section
theorem dX11_init_0 : decode cX11_init 0 = .ok (.aload_n 0, 1) := by decide +kernel
theorem dX11_init_1 : decode cX11_init 1 = .ok (.invokespecial 1, 3) := by decide +kernel
theorem dX11_init_4 : decode cX11_init 4 = .ok (.aload_n 0, 1) := by decide +kernel
theorem dX11_init_5 : decode cX11_init 5 = .ok (.new 7, 3) := by decide +kernel
theorem dX11_init_8 : decode cX11_init 8 = .ok (.dup, 1) := by decide +kernel
theorem dX11_init_9 : decode cX11_init 9 = .ok (.invokespecial 9, 3) := by decide +kernel
theorem dX11_init_12 : decode cX11_init 12 = .ok (.putfield 10, 3) := by decide +kernel
theorem dX11_init_15 : decode cX11_init 15 = .ok (.aload_n 0, 1) := by decide +kernel
theorem dX11_init_16 : decode cX11_init 16 = .ok (.new 7, 3) := by decide +kernel
theorem dX11_init_19 : decode cX11_init 19 = .ok (.dup, 1) := by decide +kernel
theorem dX11_init_20 : decode cX11_init 20 = .ok (.invokespecial 9, 3) := by decide +kernel
theorem dX11_init_23 : decode cX11_init 23 = .ok (.putfield 16, 3) := by decide +kernel
theorem dX11_init_26 : decode cX11_init 26 = .ok (.aload_n 0, 1) := by decide +kernel
theorem dX11_init_27 : decode cX11_init 27 = .ok (.new 7, 3) := by decide +kernel
theorem dX11_init_30 : decode cX11_init 30 = .ok (.dup, 1) := by decide +kernel
theorem dX11_init_31 : decode cX11_init 31 = .ok (.invokespecial 9, 3) := by decide +kernel
theorem dX11_init_34 : decode cX11_init 34 = .ok (.putfield 19, 3) := by decide +kernel
theorem dX11_init_37 : decode cX11_init 37 = .ok (.aload_n 0, 1) := by decide +kernel
theorem dX11_init_38 : decode cX11_init 38 = .ok (.new 22, 3) := by decide +kernel
theorem dX11_init_41 : decode cX11_init 41 = .ok (.dup, 1) := by decide +kernel
theorem dX11_init_42 : decode cX11_init 42 = .ok (.invokespecial 24, 3) := by decide +kernel
theorem dX11_init_45 : decode cX11_init 45 = .ok (.putfield 25, 3) := by decide +kernel
theorem dX11_init_48 : decode cX11_init 48 = .ok (.aload_n 0, 1) := by decide +kernel
theorem dX11_init_49 : decode cX11_init 49 = .ok (.bipush 8, 2) := by decide +kernel
theorem dX11_init_51 : decode cX11_init 51 = .ok (.anewarray 29, 3) := by decide +kernel
theorem dX11_init_54 : decode cX11_init 54 = .ok (.putfield 31, 3) := by decide +kernel
theorem dX11_init_57 : decode cX11_init 57 = .ok (.aload_n 0, 1) := by decide +kernel
theorem dX11_init_58 : decode cX11_init 58 = .ok (.iconst 5, 1) := by decide +kernel
theorem dX11_init_59 : decode cX11_init 59 = .ok (.newarray .int, 2) := by decide +kernel
theorem dX11_init_61 : decode cX11_init 61 = .ok (.putfield 35, 3) := by decide +kernel
theorem dX11_init_64 : decode cX11_init 64 = .ok (.aload_n 0, 1) := by decide +kernel
theorem dX11_init_65 : decode cX11_init 65 = .ok (.sipush 241, 3) := by decide +kernel
theorem dX11_init_68 : decode cX11_init 68 = .ok (.newarray .int, 2) := by decide +kernel
theorem dX11_init_70 : decode cX11_init 70 = .ok (.putfield 39, 3) := by decide +kernel
theorem dX11_init_73 : decode cX11_init 73 = .ok (.aload_n 0, 1) := by decide +kernel
theorem dX11_init_74 : decode cX11_init 74 = .ok (.sipush 241, 3) := by decide +kernel
theorem dX11_init_77 : decode cX11_init 77 = .ok (.newarray .int, 2) := by decide +kernel
theorem dX11_init_79 : decode cX11_init 79 = .ok (.putfield 42, 3) := by decide +kernel
theorem dX11_init_82 : decode cX11_init 82 = .ok (.iconst 0, 1) := by decide +kernel
theorem dX11_init_83 : decode cX11_init 83 = .ok (.istore_n 1, 1) := by decide +kernel
theorem dX11_init_84 : decode cX11_init 84 = .ok (.iload_n 1, 1) := by decide +kernel
theorem dX11_init_85 : decode cX11_init 85 = .ok (.aload_n 0, 1) := by decide +kernel
theorem dX11_init_86 : decode cX11_init 86 = .ok (.getfield 31, 3) := by decide +kernel
theorem dX11_init_89 : decode cX11_init 89 = .ok (.arraylength, 1) := by decide +kernel
theorem dX11_init_90 : decode cX11_init 90 = .ok (.if_icmp .ge 22, 3) := by decide +kernel
theorem dX11_init_93 : decode cX11_init 93 = .ok (.aload_n 0, 1) := by decide +kernel
theorem dX11_init_94 : decode cX11_init 94 = .ok (.getfield 31, 3) := by decide +kernel
theorem dX11_init_97 : decode cX11_init 97 = .ok (.iload_n 1, 1) := by decide +kernel
theorem dX11_init_98 : decode cX11_init 98 = .ok (.new 29, 3) := by decide +kernel
theorem dX11_init_101 : decode cX11_init 101 = .ok (.dup, 1) := by decide +kernel
theorem dX11_init_102 : decode cX11_init 102 = .ok (.invokespecial 45, 3) := by decide +kernel
theorem dX11_init_105 : decode cX11_init 105 = .ok (.aastore, 1) := by decide +kernel
theorem dX11_init_106 : decode cX11_init 106 = .ok (.iinc 1 1, 3) := by decide +kernel
theorem dX11_init_109 : decode cX11_init 109 = .ok (.goto (-25), 3) := by decide +kernel
theorem dX11_init_112 : decode cX11_init 112 = .ok (.return_, 1) := by decide +kernel
theorem dX11_town_0 : decode cX11_town 0 = .ok (.aload_n 0, 1) := by decide +kernel
theorem dX11_town_1 : decode cX11_town 1 = .ok (.iload_n 1, 1) := by decide +kernel
theorem dX11_town_2 : decode cX11_town 2 = .ok (.invokevirtual 46, 3) := by decide +kernel
theorem dX11_town_5 : decode cX11_town 5 = .ok (.astore_n 2, 1) := by decide +kernel
theorem dX11_town_6 : decode cX11_town 6 = .ok (.aload_n 2, 1) := by decide +kernel
theorem dX11_town_7 : decode cX11_town 7 = .ok (.ifnonnull 5, 3) := by decide +kernel
theorem dX11_town_10 : decode cX11_town 10 = .ok (.iconst (-1), 1) := by decide +kernel
theorem dX11_town_11 : decode cX11_town 11 = .ok (.ireturn, 1) := by decide +kernel
theorem dX11_town_12 : decode cX11_town 12 = .ok (.aload_n 2, 1) := by decide +kernel
theorem dX11_town_13 : decode cX11_town 13 = .ok (.invokevirtual 50, 3) := by decide +kernel
theorem dX11_town_16 : decode cX11_town 16 = .ok (.istore_n 3, 1) := by decide +kernel
theorem dX11_town_17 : decode cX11_town 17 = .ok (.iload_n 3, 1) := by decide +kernel
theorem dX11_town_18 : decode cX11_town 18 = .ok (.ifCond .eq 5, 3) := by decide +kernel
theorem dX11_town_21 : decode cX11_town 21 = .ok (.iload_n 3, 1) := by decide +kernel
theorem dX11_town_22 : decode cX11_town 22 = .ok (.ireturn, 1) := by decide +kernel
theorem dX11_town_23 : decode cX11_town 23 = .ok (.aload_n 0, 1) := by decide +kernel
theorem dX11_town_24 : decode cX11_town 24 = .ok (.getfield 19, 3) := by decide +kernel
theorem dX11_town_27 : decode cX11_town 27 = .ok (.aload_n 0, 1) := by decide +kernel
theorem dX11_town_28 : decode cX11_town 28 = .ok (.getfield 10, 3) := by decide +kernel
theorem dX11_town_31 : decode cX11_town 31 = .ok (.invokevirtual 54, 3) := by decide +kernel
theorem dX11_town_34 : decode cX11_town 34 = .ok (.aload_n 0, 1) := by decide +kernel
theorem dX11_town_35 : decode cX11_town 35 = .ok (.getfield 19, 3) := by decide +kernel
theorem dX11_town_38 : decode cX11_town 38 = .ok (.aload_n 2, 1) := by decide +kernel
theorem dX11_town_39 : decode cX11_town 39 = .ok (.invokevirtual 58, 3) := by decide +kernel
theorem dX11_town_42 : decode cX11_town 42 = .ok (.istore 4, 2) := by decide +kernel
theorem dX11_town_44 : decode cX11_town 44 = .ok (.iload 4, 2) := by decide +kernel
theorem dX11_town_46 : decode cX11_town 46 = .ok (.ifCond .le 14, 3) := by decide +kernel
theorem dX11_town_49 : decode cX11_town 49 = .ok (.aload_n 0, 1) := by decide +kernel
theorem dX11_town_50 : decode cX11_town 50 = .ok (.getfield 10, 3) := by decide +kernel
theorem dX11_town_53 : decode cX11_town 53 = .ok (.aload_n 0, 1) := by decide +kernel
theorem dX11_town_54 : decode cX11_town 54 = .ok (.getfield 19, 3) := by decide +kernel
theorem dX11_town_57 : decode cX11_town 57 = .ok (.invokevirtual 54, 3) := by decide +kernel
theorem dX11_town_60 : decode cX11_town 60 = .ok (.iload 4, 2) := by decide +kernel
theorem dX11_town_62 : decode cX11_town 62 = .ok (.ireturn, 1) := by decide +kernel
theorem dX11_deed_0 : decode cX11_deed 0 = .ok (.aload_n 0, 1) := by decide +kernel
theorem dX11_deed_1 : decode cX11_deed 1 = .ok (.getfield 10, 3) := by decide +kernel
theorem dX11_deed_4 : decode cX11_deed 4 = .ok (.iload_n 1, 1) := by decide +kernel
theorem dX11_deed_5 : decode cX11_deed 5 = .ok (.invokevirtual 62, 3) := by decide +kernel
theorem dX11_deed_8 : decode cX11_deed 8 = .ok (.astore_n 3, 1) := by decide +kernel
theorem dX11_deed_9 : decode cX11_deed 9 = .ok (.aload_n 3, 1) := by decide +kernel
theorem dX11_deed_10 : decode cX11_deed 10 = .ok (.ifnonnull 5, 3) := by decide +kernel
theorem dX11_deed_13 : decode cX11_deed 13 = .ok (.iconst (-1), 1) := by decide +kernel
theorem dX11_deed_14 : decode cX11_deed 14 = .ok (.ireturn, 1) := by decide +kernel
theorem dX11_deed_15 : decode cX11_deed 15 = .ok (.iload_n 2, 1) := by decide +kernel
theorem dX11_deed_16 : decode cX11_deed 16 = .ok (.tableswitch 96 0 7 #[48, 53, 58, 63, 68, 73, 78, 83], 48) := by decide +kernel
theorem dX11_deed_64 : decode cX11_deed 64 = .ok (.aload_n 3, 1) := by decide +kernel
theorem dX11_deed_65 : decode cX11_deed 65 = .ok (.getfield 66, 3) := by decide +kernel
theorem dX11_deed_68 : decode cX11_deed 68 = .ok (.ireturn, 1) := by decide +kernel
theorem dX11_deed_69 : decode cX11_deed 69 = .ok (.aload_n 3, 1) := by decide +kernel
theorem dX11_deed_70 : decode cX11_deed 70 = .ok (.getfield 72, 3) := by decide +kernel
theorem dX11_deed_73 : decode cX11_deed 73 = .ok (.ireturn, 1) := by decide +kernel
theorem dX11_deed_74 : decode cX11_deed 74 = .ok (.aload_n 3, 1) := by decide +kernel
theorem dX11_deed_75 : decode cX11_deed 75 = .ok (.getfield 75, 3) := by decide +kernel
theorem dX11_deed_78 : decode cX11_deed 78 = .ok (.ireturn, 1) := by decide +kernel
theorem dX11_deed_79 : decode cX11_deed 79 = .ok (.aload_n 3, 1) := by decide +kernel
theorem dX11_deed_80 : decode cX11_deed 80 = .ok (.getfield 78, 3) := by decide +kernel
theorem dX11_deed_83 : decode cX11_deed 83 = .ok (.ireturn, 1) := by decide +kernel
theorem dX11_deed_84 : decode cX11_deed 84 = .ok (.aload_n 3, 1) := by decide +kernel
theorem dX11_deed_85 : decode cX11_deed 85 = .ok (.getfield 81, 3) := by decide +kernel
theorem dX11_deed_88 : decode cX11_deed 88 = .ok (.ireturn, 1) := by decide +kernel
theorem dX11_deed_89 : decode cX11_deed 89 = .ok (.aload_n 3, 1) := by decide +kernel
theorem dX11_deed_90 : decode cX11_deed 90 = .ok (.getfield 84, 3) := by decide +kernel
theorem dX11_deed_93 : decode cX11_deed 93 = .ok (.ireturn, 1) := by decide +kernel
theorem dX11_deed_94 : decode cX11_deed 94 = .ok (.aload_n 3, 1) := by decide +kernel
theorem dX11_deed_95 : decode cX11_deed 95 = .ok (.getfield 87, 3) := by decide +kernel
theorem dX11_deed_98 : decode cX11_deed 98 = .ok (.ireturn, 1) := by decide +kernel
theorem dX11_deed_99 : decode cX11_deed 99 = .ok (.aload_n 3, 1) := by decide +kernel
theorem dX11_deed_100 : decode cX11_deed 100 = .ok (.getfield 90, 3) := by decide +kernel
theorem dX11_deed_103 : decode cX11_deed 103 = .ok (.ifCond .eq 7, 3) := by decide +kernel
theorem dX11_deed_106 : decode cX11_deed 106 = .ok (.iconst 1, 1) := by decide +kernel
theorem dX11_deed_107 : decode cX11_deed 107 = .ok (.goto 4, 3) := by decide +kernel
theorem dX11_deed_110 : decode cX11_deed 110 = .ok (.iconst 0, 1) := by decide +kernel
theorem dX11_deed_111 : decode cX11_deed 111 = .ok (.ireturn, 1) := by decide +kernel
theorem dX11_deed_112 : decode cX11_deed 112 = .ok (.iconst (-1), 1) := by decide +kernel
theorem dX11_deed_113 : decode cX11_deed 113 = .ok (.ireturn, 1) := by decide +kernel
theorem dX11_marks_0 : decode cX11_marks 0 = .ok (.aload_n 0, 1) := by decide +kernel
theorem dX11_marks_1 : decode cX11_marks 1 = .ok (.getfield 10, 3) := by decide +kernel
theorem dX11_marks_4 : decode cX11_marks 4 = .ok (.getfield 94, 3) := by decide +kernel
theorem dX11_marks_7 : decode cX11_marks 7 = .ok (.ireturn, 1) := by decide +kernel
theorem dX11_state_0 : decode cX11_state 0 = .ok (.iload_n 1, 1) := by decide +kernel
theorem dX11_state_1 : decode cX11_state 1 = .ok (.tableswitch 63 0 3 #[31, 39, 47, 55], 31) := by decide +kernel
theorem dX11_state_32 : decode cX11_state 32 = .ok (.aload_n 0, 1) := by decide +kernel
theorem dX11_state_33 : decode cX11_state 33 = .ok (.getfield 10, 3) := by decide +kernel
theorem dX11_state_36 : decode cX11_state 36 = .ok (.getfield 97, 3) := by decide +kernel
theorem dX11_state_39 : decode cX11_state 39 = .ok (.ireturn, 1) := by decide +kernel
theorem dX11_state_40 : decode cX11_state 40 = .ok (.aload_n 0, 1) := by decide +kernel
theorem dX11_state_41 : decode cX11_state 41 = .ok (.getfield 10, 3) := by decide +kernel
theorem dX11_state_44 : decode cX11_state 44 = .ok (.getfield 100, 3) := by decide +kernel
theorem dX11_state_47 : decode cX11_state 47 = .ok (.ireturn, 1) := by decide +kernel
theorem dX11_state_48 : decode cX11_state 48 = .ok (.aload_n 0, 1) := by decide +kernel
theorem dX11_state_49 : decode cX11_state 49 = .ok (.getfield 10, 3) := by decide +kernel
theorem dX11_state_52 : decode cX11_state 52 = .ok (.getfield 103, 3) := by decide +kernel
theorem dX11_state_55 : decode cX11_state 55 = .ok (.ireturn, 1) := by decide +kernel
theorem dX11_state_56 : decode cX11_state 56 = .ok (.aload_n 0, 1) := by decide +kernel
theorem dX11_state_57 : decode cX11_state 57 = .ok (.getfield 10, 3) := by decide +kernel
theorem dX11_state_60 : decode cX11_state 60 = .ok (.getfield 106, 3) := by decide +kernel
theorem dX11_state_63 : decode cX11_state 63 = .ok (.ireturn, 1) := by decide +kernel
theorem dX11_state_64 : decode cX11_state 64 = .ok (.iconst (-1), 1) := by decide +kernel
theorem dX11_state_65 : decode cX11_state 65 = .ok (.ireturn, 1) := by decide +kernel
theorem dX11_rise_0 : decode cX11_rise 0 = .ok (.aload_n 0, 1) := by decide +kernel
theorem dX11_rise_1 : decode cX11_rise 1 = .ok (.getfield 10, 3) := by decide +kernel
theorem dX11_rise_4 : decode cX11_rise 4 = .ok (.getfield 109, 3) := by decide +kernel
theorem dX11_rise_7 : decode cX11_rise 7 = .ok (.ireturn, 1) := by decide +kernel
theorem dX11_set_0 : decode cX11_set 0 = .ok (.iload_n 1, 1) := by decide +kernel
theorem dX11_set_1 : decode cX11_set 1 = .ok (.tableswitch 54 0 2 #[27, 36, 45], 27) := by decide +kernel
theorem dX11_set_28 : decode cX11_set 28 = .ok (.aload_n 0, 1) := by decide +kernel
theorem dX11_set_29 : decode cX11_set 29 = .ok (.getfield 10, 3) := by decide +kernel
theorem dX11_set_32 : decode cX11_set 32 = .ok (.iload_n 2, 1) := by decide +kernel
theorem dX11_set_33 : decode cX11_set 33 = .ok (.invokevirtual 112, 3) := by decide +kernel
theorem dX11_set_36 : decode cX11_set 36 = .ok (.ireturn, 1) := by decide +kernel
theorem dX11_set_37 : decode cX11_set 37 = .ok (.aload_n 0, 1) := by decide +kernel
theorem dX11_set_38 : decode cX11_set 38 = .ok (.getfield 10, 3) := by decide +kernel
theorem dX11_set_41 : decode cX11_set 41 = .ok (.iload_n 2, 1) := by decide +kernel
theorem dX11_set_42 : decode cX11_set 42 = .ok (.invokevirtual 116, 3) := by decide +kernel
theorem dX11_set_45 : decode cX11_set 45 = .ok (.ireturn, 1) := by decide +kernel
theorem dX11_set_46 : decode cX11_set 46 = .ok (.aload_n 0, 1) := by decide +kernel
theorem dX11_set_47 : decode cX11_set 47 = .ok (.getfield 10, 3) := by decide +kernel
theorem dX11_set_50 : decode cX11_set 50 = .ok (.iload_n 2, 1) := by decide +kernel
theorem dX11_set_51 : decode cX11_set 51 = .ok (.invokevirtual 119, 3) := by decide +kernel
theorem dX11_set_54 : decode cX11_set 54 = .ok (.ireturn, 1) := by decide +kernel
theorem dX11_set_55 : decode cX11_set 55 = .ok (.iconst (-1), 1) := by decide +kernel
theorem dX11_set_56 : decode cX11_set 56 = .ok (.ireturn, 1) := by decide +kernel
theorem dX11_may_0 : decode cX11_may 0 = .ok (.aload_n 0, 1) := by decide +kernel
theorem dX11_may_1 : decode cX11_may 1 = .ok (.getfield 10, 3) := by decide +kernel
theorem dX11_may_4 : decode cX11_may 4 = .ok (.iload_n 1, 1) := by decide +kernel
theorem dX11_may_5 : decode cX11_may 5 = .ok (.invokevirtual 62, 3) := by decide +kernel
theorem dX11_may_8 : decode cX11_may 8 = .ok (.astore_n 2, 1) := by decide +kernel
theorem dX11_may_9 : decode cX11_may 9 = .ok (.aload_n 2, 1) := by decide +kernel
theorem dX11_may_10 : decode cX11_may 10 = .ok (.ifnonnull 5, 3) := by decide +kernel
theorem dX11_may_13 : decode cX11_may 13 = .ok (.iconst (-1), 1) := by decide +kernel
theorem dX11_may_14 : decode cX11_may 14 = .ok (.ireturn, 1) := by decide +kernel
theorem dX11_may_15 : decode cX11_may 15 = .ok (.aload_n 2, 1) := by decide +kernel
theorem dX11_may_16 : decode cX11_may 16 = .ok (.aload_n 0, 1) := by decide +kernel
theorem dX11_may_17 : decode cX11_may 17 = .ok (.getfield 10, 3) := by decide +kernel
theorem dX11_may_20 : decode cX11_may 20 = .ok (.getfield 94, 3) := by decide +kernel
theorem dX11_may_23 : decode cX11_may 23 = .ok (.aload_n 0, 1) := by decide +kernel
theorem dX11_may_24 : decode cX11_may 24 = .ok (.getfield 10, 3) := by decide +kernel
theorem dX11_may_27 : decode cX11_may 27 = .ok (.getfield 97, 3) := by decide +kernel
theorem dX11_may_30 : decode cX11_may 30 = .ok (.invokevirtual 122, 3) := by decide +kernel
theorem dX11_may_33 : decode cX11_may 33 = .ok (.ifCond .eq 7, 3) := by decide +kernel
theorem dX11_may_36 : decode cX11_may 36 = .ok (.iconst 1, 1) := by decide +kernel
theorem dX11_may_37 : decode cX11_may 37 = .ok (.goto 4, 3) := by decide +kernel
theorem dX11_may_40 : decode cX11_may 40 = .ok (.iconst 0, 1) := by decide +kernel
theorem dX11_may_41 : decode cX11_may 41 = .ok (.ireturn, 1) := by decide +kernel
theorem dX11_pair_0 : decode cX11_pair 0 = .ok (.aload_n 0, 1) := by decide +kernel
theorem dX11_pair_1 : decode cX11_pair 1 = .ok (.iload_n 1, 1) := by decide +kernel
theorem dX11_pair_2 : decode cX11_pair 2 = .ok (.iload_n 2, 1) := by decide +kernel
theorem dX11_pair_3 : decode cX11_pair 3 = .ok (.invokevirtual 126, 3) := by decide +kernel
theorem dX11_pair_6 : decode cX11_pair 6 = .ok (.istore_n 3, 1) := by decide +kernel
theorem dX11_pair_7 : decode cX11_pair 7 = .ok (.iload_n 3, 1) := by decide +kernel
theorem dX11_pair_8 : decode cX11_pair 8 = .ok (.ifCond .eq 5, 3) := by decide +kernel
theorem dX11_pair_11 : decode cX11_pair 11 = .ok (.iload_n 3, 1) := by decide +kernel
theorem dX11_pair_12 : decode cX11_pair 12 = .ok (.ireturn, 1) := by decide +kernel
theorem dX11_pair_13 : decode cX11_pair 13 = .ok (.aload_n 0, 1) := by decide +kernel
theorem dX11_pair_14 : decode cX11_pair 14 = .ok (.iconst 2, 1) := by decide +kernel
theorem dX11_pair_15 : decode cX11_pair 15 = .ok (.invokevirtual 130, 3) := by decide +kernel
theorem dX11_pair_18 : decode cX11_pair 18 = .ok (.aload_n 0, 1) := by decide +kernel
theorem dX11_pair_19 : decode cX11_pair 19 = .ok (.getfield 25, 3) := by decide +kernel
theorem dX11_pair_22 : decode cX11_pair 22 = .ok (.invokevirtual 134, 3) := by decide +kernel
theorem dX11_pair_25 : decode cX11_pair 25 = .ok (.invokestatic 137, 3) := by decide +kernel
theorem dX11_pair_28 : decode cX11_pair 28 = .ok (.ireturn, 1) := by decide +kernel
theorem dX11_even_0 : decode cX11_even 0 = .ok (.aload_n 0, 1) := by decide +kernel
theorem dX11_even_1 : decode cX11_even 1 = .ok (.iload_n 1, 1) := by decide +kernel
theorem dX11_even_2 : decode cX11_even 2 = .ok (.invokevirtual 142, 3) := by decide +kernel
theorem dX11_even_5 : decode cX11_even 5 = .ok (.istore_n 2, 1) := by decide +kernel
theorem dX11_even_6 : decode cX11_even 6 = .ok (.iload_n 2, 1) := by decide +kernel
theorem dX11_even_7 : decode cX11_even 7 = .ok (.ifCond .eq 5, 3) := by decide +kernel
theorem dX11_even_10 : decode cX11_even 10 = .ok (.iload_n 2, 1) := by decide +kernel
theorem dX11_even_11 : decode cX11_even 11 = .ok (.ireturn, 1) := by decide +kernel
theorem dX11_even_12 : decode cX11_even 12 = .ok (.aload_n 0, 1) := by decide +kernel
theorem dX11_even_13 : decode cX11_even 13 = .ok (.getfield 25, 3) := by decide +kernel
theorem dX11_even_16 : decode cX11_even 16 = .ok (.aload_n 0, 1) := by decide +kernel
theorem dX11_even_17 : decode cX11_even 17 = .ok (.getfield 10, 3) := by decide +kernel
theorem dX11_even_20 : decode cX11_even 20 = .ok (.getfield 94, 3) := by decide +kernel
theorem dX11_even_23 : decode cX11_even 23 = .ok (.aload_n 0, 1) := by decide +kernel
theorem dX11_even_24 : decode cX11_even 24 = .ok (.getfield 10, 3) := by decide +kernel
theorem dX11_even_27 : decode cX11_even 27 = .ok (.getfield 97, 3) := by decide +kernel
theorem dX11_even_30 : decode cX11_even 30 = .ok (.invokevirtual 145, 3) := by decide +kernel
theorem dX11_even_33 : decode cX11_even 33 = .ok (.aload_n 0, 1) := by decide +kernel
theorem dX11_even_34 : decode cX11_even 34 = .ok (.getfield 25, 3) := by decide +kernel
theorem dX11_even_37 : decode cX11_even 37 = .ok (.iconst 0, 1) := by decide +kernel
theorem dX11_even_38 : decode cX11_even 38 = .ok (.invokevirtual 149, 3) := by decide +kernel
theorem dX11_even_41 : decode cX11_even 41 = .ok (.aload_n 0, 1) := by decide +kernel
theorem dX11_even_42 : decode cX11_even 42 = .ok (.iconst 1, 1) := by decide +kernel
theorem dX11_even_43 : decode cX11_even 43 = .ok (.invokevirtual 130, 3) := by decide +kernel
theorem dX11_even_46 : decode cX11_even 46 = .ok (.aload_n 0, 1) := by decide +kernel
theorem dX11_even_47 : decode cX11_even 47 = .ok (.getfield 25, 3) := by decide +kernel
theorem dX11_even_50 : decode cX11_even 50 = .ok (.getfield 152, 3) := by decide +kernel
theorem dX11_even_53 : decode cX11_even 53 = .ok (.invokestatic 137, 3) := by decide +kernel
theorem dX11_even_56 : decode cX11_even 56 = .ok (.ireturn, 1) := by decide +kernel
theorem dX11_lasts_0 : decode cX11_lasts 0 = .ok (.iload_n 3, 1) := by decide +kernel
theorem dX11_lasts_1 : decode cX11_lasts 1 = .ok (.ifCond .lt 9, 3) := by decide +kernel
theorem dX11_lasts_4 : decode cX11_lasts 4 = .ok (.iload_n 3, 1) := by decide +kernel
theorem dX11_lasts_5 : decode cX11_lasts 5 = .ok (.bipush 10, 2) := by decide +kernel
theorem dX11_lasts_7 : decode cX11_lasts 7 = .ok (.if_icmp .lt 5, 3) := by decide +kernel
theorem dX11_lasts_10 : decode cX11_lasts 10 = .ok (.iconst (-1), 1) := by decide +kernel
theorem dX11_lasts_11 : decode cX11_lasts 11 = .ok (.ireturn, 1) := by decide +kernel
theorem dX11_lasts_12 : decode cX11_lasts 12 = .ok (.aload_n 0, 1) := by decide +kernel
theorem dX11_lasts_13 : decode cX11_lasts 13 = .ok (.iload_n 1, 1) := by decide +kernel
theorem dX11_lasts_14 : decode cX11_lasts 14 = .ok (.iload_n 2, 1) := by decide +kernel
theorem dX11_lasts_15 : decode cX11_lasts 15 = .ok (.invokevirtual 126, 3) := by decide +kernel
theorem dX11_lasts_18 : decode cX11_lasts 18 = .ok (.istore 4, 2) := by decide +kernel
theorem dX11_lasts_20 : decode cX11_lasts 20 = .ok (.iload 4, 2) := by decide +kernel
theorem dX11_lasts_22 : decode cX11_lasts 22 = .ok (.ifCond .eq 8, 3) := by decide +kernel
theorem dX11_lasts_25 : decode cX11_lasts 25 = .ok (.iload 4, 2) := by decide +kernel
theorem dX11_lasts_27 : decode cX11_lasts 27 = .ok (.goto 14, 3) := by decide +kernel
theorem dX11_lasts_30 : decode cX11_lasts 30 = .ok (.aload_n 0, 1) := by decide +kernel
theorem dX11_lasts_31 : decode cX11_lasts 31 = .ok (.getfield 25, 3) := by decide +kernel
theorem dX11_lasts_34 : decode cX11_lasts 34 = .ok (.getfield 155, 3) := by decide +kernel
theorem dX11_lasts_37 : decode cX11_lasts 37 = .ok (.iload_n 3, 1) := by decide +kernel
theorem dX11_lasts_38 : decode cX11_lasts 38 = .ok (.ishr, 1) := by decide +kernel
theorem dX11_lasts_39 : decode cX11_lasts 39 = .ok (.iconst 1, 1) := by decide +kernel
theorem dX11_lasts_40 : decode cX11_lasts 40 = .ok (.iand, 1) := by decide +kernel
theorem dX11_lasts_41 : decode cX11_lasts 41 = .ok (.ireturn, 1) := by decide +kernel
theorem dX11_why_0 : decode cX11_why 0 = .ok (.aload_n 0, 1) := by decide +kernel
theorem dX11_why_1 : decode cX11_why 1 = .ok (.iload_n 1, 1) := by decide +kernel
theorem dX11_why_2 : decode cX11_why 2 = .ok (.iload_n 2, 1) := by decide +kernel
theorem dX11_why_3 : decode cX11_why 3 = .ok (.invokevirtual 126, 3) := by decide +kernel
theorem dX11_why_6 : decode cX11_why 6 = .ok (.istore 4, 2) := by decide +kernel
theorem dX11_why_8 : decode cX11_why 8 = .ok (.iload 4, 2) := by decide +kernel
theorem dX11_why_10 : decode cX11_why 10 = .ok (.ifCond .eq 6, 3) := by decide +kernel
theorem dX11_why_13 : decode cX11_why 13 = .ok (.iload 4, 2) := by decide +kernel
theorem dX11_why_15 : decode cX11_why 15 = .ok (.ireturn, 1) := by decide +kernel
theorem dX11_why_16 : decode cX11_why 16 = .ok (.iload_n 3, 1) := by decide +kernel
theorem dX11_why_17 : decode cX11_why 17 = .ok (.ifCond .lt 14, 3) := by decide +kernel
theorem dX11_why_20 : decode cX11_why 20 = .ok (.iload_n 3, 1) := by decide +kernel
theorem dX11_why_21 : decode cX11_why 21 = .ok (.aload_n 0, 1) := by decide +kernel
theorem dX11_why_22 : decode cX11_why 22 = .ok (.getfield 25, 3) := by decide +kernel
theorem dX11_why_25 : decode cX11_why 25 = .ok (.getfield 156, 3) := by decide +kernel
theorem dX11_why_28 : decode cX11_why 28 = .ok (.if_icmp .lt 8, 3) := by decide +kernel
theorem dX11_why_31 : decode cX11_why 31 = .ok (.bipush (-13), 2) := by decide +kernel
theorem dX11_why_33 : decode cX11_why 33 = .ok (.goto 11, 3) := by decide +kernel
theorem dX11_why_36 : decode cX11_why 36 = .ok (.aload_n 0, 1) := by decide +kernel
theorem dX11_why_37 : decode cX11_why 37 = .ok (.getfield 25, 3) := by decide +kernel
theorem dX11_why_40 : decode cX11_why 40 = .ok (.iload_n 3, 1) := by decide +kernel
theorem dX11_why_41 : decode cX11_why 41 = .ok (.invokevirtual 159, 3) := by decide +kernel
theorem dX11_why_44 : decode cX11_why 44 = .ok (.ireturn, 1) := by decide +kernel
theorem dX11_behind_0 : decode cX11_behind 0 = .ok (.iload_n 3, 1) := by decide +kernel
theorem dX11_behind_1 : decode cX11_behind 1 = .ok (.ifCond .lt 8, 3) := by decide +kernel
theorem dX11_behind_4 : decode cX11_behind 4 = .ok (.iload_n 3, 1) := by decide +kernel
theorem dX11_behind_5 : decode cX11_behind 5 = .ok (.iconst 3, 1) := by decide +kernel
theorem dX11_behind_6 : decode cX11_behind 6 = .ok (.if_icmp .le 5, 3) := by decide +kernel
theorem dX11_behind_9 : decode cX11_behind 9 = .ok (.iconst (-1), 1) := by decide +kernel
theorem dX11_behind_10 : decode cX11_behind 10 = .ok (.ireturn, 1) := by decide +kernel
theorem dX11_behind_11 : decode cX11_behind 11 = .ok (.aload_n 0, 1) := by decide +kernel
theorem dX11_behind_12 : decode cX11_behind 12 = .ok (.iload_n 1, 1) := by decide +kernel
theorem dX11_behind_13 : decode cX11_behind 13 = .ok (.iload_n 2, 1) := by decide +kernel
theorem dX11_behind_14 : decode cX11_behind 14 = .ok (.invokevirtual 126, 3) := by decide +kernel
theorem dX11_behind_17 : decode cX11_behind 17 = .ok (.istore 4, 2) := by decide +kernel
theorem dX11_behind_19 : decode cX11_behind 19 = .ok (.iload 4, 2) := by decide +kernel
theorem dX11_behind_21 : decode cX11_behind 21 = .ok (.ifCond .eq 6, 3) := by decide +kernel
theorem dX11_behind_24 : decode cX11_behind 24 = .ok (.iload 4, 2) := by decide +kernel
theorem dX11_behind_26 : decode cX11_behind 26 = .ok (.ireturn, 1) := by decide +kernel
theorem dX11_behind_27 : decode cX11_behind 27 = .ok (.iload_n 3, 1) := by decide +kernel
theorem dX11_behind_28 : decode cX11_behind 28 = .ok (.tableswitch 55 0 2 #[28, 36, 44], 28) := by decide +kernel
theorem dX11_behind_56 : decode cX11_behind 56 = .ok (.aload_n 0, 1) := by decide +kernel
theorem dX11_behind_57 : decode cX11_behind 57 = .ok (.getfield 25, 3) := by decide +kernel
theorem dX11_behind_60 : decode cX11_behind 60 = .ok (.getfield 155, 3) := by decide +kernel
theorem dX11_behind_63 : decode cX11_behind 63 = .ok (.ireturn, 1) := by decide +kernel
theorem dX11_behind_64 : decode cX11_behind 64 = .ok (.aload_n 0, 1) := by decide +kernel
theorem dX11_behind_65 : decode cX11_behind 65 = .ok (.getfield 25, 3) := by decide +kernel
theorem dX11_behind_68 : decode cX11_behind 68 = .ok (.getfield 162, 3) := by decide +kernel
theorem dX11_behind_71 : decode cX11_behind 71 = .ok (.ireturn, 1) := by decide +kernel
theorem dX11_behind_72 : decode cX11_behind 72 = .ok (.aload_n 0, 1) := by decide +kernel
theorem dX11_behind_73 : decode cX11_behind 73 = .ok (.getfield 25, 3) := by decide +kernel
theorem dX11_behind_76 : decode cX11_behind 76 = .ok (.getfield 163, 3) := by decide +kernel
theorem dX11_behind_79 : decode cX11_behind 79 = .ok (.invokestatic 137, 3) := by decide +kernel
theorem dX11_behind_82 : decode cX11_behind 82 = .ok (.ireturn, 1) := by decide +kernel
theorem dX11_behind_83 : decode cX11_behind 83 = .ok (.aload_n 0, 1) := by decide +kernel
theorem dX11_behind_84 : decode cX11_behind 84 = .ok (.getfield 25, 3) := by decide +kernel
theorem dX11_behind_87 : decode cX11_behind 87 = .ok (.getfield 166, 3) := by decide +kernel
theorem dX11_behind_90 : decode cX11_behind 90 = .ok (.ireturn, 1) := by decide +kernel
theorem dX11_least_0 : decode cX11_least 0 = .ok (.iload_n 2, 1) := by decide +kernel
theorem dX11_least_1 : decode cX11_least 1 = .ok (.invokestatic 169, 3) := by decide +kernel
theorem dX11_least_4 : decode cX11_least 4 = .ok (.ifCond .eq 12, 3) := by decide +kernel
theorem dX11_least_7 : decode cX11_least 7 = .ok (.iload_n 3, 1) := by decide +kernel
theorem dX11_least_8 : decode cX11_least 8 = .ok (.ifCond .lt 8, 3) := by decide +kernel
theorem dX11_least_11 : decode cX11_least 11 = .ok (.iload_n 3, 1) := by decide +kernel
theorem dX11_least_12 : decode cX11_least 12 = .ok (.iconst 2, 1) := by decide +kernel
theorem dX11_least_13 : decode cX11_least 13 = .ok (.if_icmp .le 5, 3) := by decide +kernel
theorem dX11_least_16 : decode cX11_least 16 = .ok (.iconst (-1), 1) := by decide +kernel
theorem dX11_least_17 : decode cX11_least 17 = .ok (.ireturn, 1) := by decide +kernel
theorem dX11_least_18 : decode cX11_least 18 = .ok (.aload_n 0, 1) := by decide +kernel
theorem dX11_least_19 : decode cX11_least 19 = .ok (.iload_n 1, 1) := by decide +kernel
theorem dX11_least_20 : decode cX11_least 20 = .ok (.invokevirtual 142, 3) := by decide +kernel
theorem dX11_least_23 : decode cX11_least 23 = .ok (.istore 4, 2) := by decide +kernel
theorem dX11_least_25 : decode cX11_least 25 = .ok (.iload 4, 2) := by decide +kernel
theorem dX11_least_27 : decode cX11_least 27 = .ok (.ifCond .eq 6, 3) := by decide +kernel
theorem dX11_least_30 : decode cX11_least 30 = .ok (.iload 4, 2) := by decide +kernel
theorem dX11_least_32 : decode cX11_least 32 = .ok (.ireturn, 1) := by decide +kernel
theorem dX11_least_33 : decode cX11_least 33 = .ok (.aload_n 0, 1) := by decide +kernel
theorem dX11_least_34 : decode cX11_least 34 = .ok (.getfield 25, 3) := by decide +kernel
theorem dX11_least_37 : decode cX11_least 37 = .ok (.iload_n 2, 1) := by decide +kernel
theorem dX11_least_38 : decode cX11_least 38 = .ok (.invokevirtual 173, 3) := by decide +kernel
theorem dX11_least_41 : decode cX11_least 41 = .ok (.istore 5, 2) := by decide +kernel
theorem dX11_least_43 : decode cX11_least 43 = .ok (.iload 5, 2) := by decide +kernel
theorem dX11_least_45 : decode cX11_least 45 = .ok (.ifCond .ge 6, 3) := by decide +kernel
theorem dX11_least_48 : decode cX11_least 48 = .ok (.bipush (-4), 2) := by decide +kernel
theorem dX11_least_50 : decode cX11_least 50 = .ok (.ireturn, 1) := by decide +kernel
theorem dX11_least_51 : decode cX11_least 51 = .ok (.iload_n 3, 1) := by decide +kernel
theorem dX11_least_52 : decode cX11_least 52 = .ok (.ifCond .ne 9, 3) := by decide +kernel
theorem dX11_least_55 : decode cX11_least 55 = .ok (.iload 5, 2) := by decide +kernel
theorem dX11_least_57 : decode cX11_least 57 = .ok (.invokestatic 137, 3) := by decide +kernel
theorem dX11_least_60 : decode cX11_least 60 = .ok (.ireturn, 1) := by decide +kernel
theorem dX11_least_61 : decode cX11_least 61 = .ok (.iload_n 3, 1) := by decide +kernel
theorem dX11_least_62 : decode cX11_least 62 = .ok (.iconst 2, 1) := by decide +kernel
theorem dX11_least_63 : decode cX11_least 63 = .ok (.if_icmp .ne 6, 3) := by decide +kernel
theorem dX11_least_66 : decode cX11_least 66 = .ok (.iload 5, 2) := by decide +kernel
theorem dX11_least_68 : decode cX11_least 68 = .ok (.ireturn, 1) := by decide +kernel
theorem dX11_least_69 : decode cX11_least 69 = .ok (.aload_n 0, 1) := by decide +kernel
theorem dX11_least_70 : decode cX11_least 70 = .ok (.getfield 25, 3) := by decide +kernel
theorem dX11_least_73 : decode cX11_least 73 = .ok (.iload 5, 2) := by decide +kernel
theorem dX11_least_75 : decode cX11_least 75 = .ok (.invokevirtual 176, 3) := by decide +kernel
theorem dX11_least_78 : decode cX11_least 78 = .ok (.aload_n 0, 1) := by decide +kernel
theorem dX11_least_79 : decode cX11_least 79 = .ok (.getfield 25, 3) := by decide +kernel
theorem dX11_least_82 : decode cX11_least 82 = .ok (.getfield 166, 3) := by decide +kernel
theorem dX11_least_85 : decode cX11_least 85 = .ok (.ireturn, 1) := by decide +kernel
theorem dX11_free_0 : decode cX11_free 0 = .ok (.iload_n 2, 1) := by decide +kernel
theorem dX11_free_1 : decode cX11_free 1 = .ok (.invokestatic 169, 3) := by decide +kernel
theorem dX11_free_4 : decode cX11_free 4 = .ok (.ifCond .eq 12, 3) := by decide +kernel
theorem dX11_free_7 : decode cX11_free 7 = .ok (.iload_n 3, 1) := by decide +kernel
theorem dX11_free_8 : decode cX11_free 8 = .ok (.ifCond .lt 8, 3) := by decide +kernel
theorem dX11_free_11 : decode cX11_free 11 = .ok (.iload_n 3, 1) := by decide +kernel
theorem dX11_free_12 : decode cX11_free 12 = .ok (.iconst 1, 1) := by decide +kernel
theorem dX11_free_13 : decode cX11_free 13 = .ok (.if_icmp .le 5, 3) := by decide +kernel
theorem dX11_free_16 : decode cX11_free 16 = .ok (.iconst (-1), 1) := by decide +kernel
theorem dX11_free_17 : decode cX11_free 17 = .ok (.ireturn, 1) := by decide +kernel
theorem dX11_free_18 : decode cX11_free 18 = .ok (.aload_n 0, 1) := by decide +kernel
theorem dX11_free_19 : decode cX11_free 19 = .ok (.iload_n 1, 1) := by decide +kernel
theorem dX11_free_20 : decode cX11_free 20 = .ok (.invokevirtual 179, 3) := by decide +kernel
theorem dX11_free_23 : decode cX11_free 23 = .ok (.istore 4, 2) := by decide +kernel
theorem dX11_free_25 : decode cX11_free 25 = .ok (.aload_n 0, 1) := by decide +kernel
theorem dX11_free_26 : decode cX11_free 26 = .ok (.iload_n 1, 1) := by decide +kernel
theorem dX11_free_27 : decode cX11_free 27 = .ok (.invokevirtual 46, 3) := by decide +kernel
theorem dX11_free_30 : decode cX11_free 30 = .ok (.astore 5, 2) := by decide +kernel
theorem dX11_free_32 : decode cX11_free 32 = .ok (.iload 4, 2) := by decide +kernel
theorem dX11_free_34 : decode cX11_free 34 = .ok (.ifCond .ne 8, 3) := by decide +kernel
theorem dX11_free_37 : decode cX11_free 37 = .ok (.aload 5, 2) := by decide +kernel
theorem dX11_free_39 : decode cX11_free 39 = .ok (.ifnonnull 6, 3) := by decide +kernel
theorem dX11_free_42 : decode cX11_free 42 = .ok (.iload 4, 2) := by decide +kernel
theorem dX11_free_44 : decode cX11_free 44 = .ok (.ireturn, 1) := by decide +kernel
theorem dX11_free_45 : decode cX11_free 45 = .ok (.aload 5, 2) := by decide +kernel
theorem dX11_free_47 : decode cX11_free 47 = .ok (.getfield 182, 3) := by decide +kernel
theorem dX11_free_50 : decode cX11_free 50 = .ok (.iconst 5, 1) := by decide +kernel
theorem dX11_free_51 : decode cX11_free 51 = .ok (.if_icmp .le 8, 3) := by decide +kernel
theorem dX11_free_54 : decode cX11_free 54 = .ok (.bipush (-13), 2) := by decide +kernel
theorem dX11_free_56 : decode cX11_free 56 = .ok (.goto 11, 3) := by decide +kernel
theorem dX11_free_59 : decode cX11_free 59 = .ok (.aload_n 0, 1) := by decide +kernel
theorem dX11_free_60 : decode cX11_free 60 = .ok (.aload 5, 2) := by decide +kernel
theorem dX11_free_62 : decode cX11_free 62 = .ok (.iload_n 2, 1) := by decide +kernel
theorem dX11_free_63 : decode cX11_free 63 = .ok (.iload_n 3, 1) := by decide +kernel
theorem dX11_free_64 : decode cX11_free 64 = .ok (.invokevirtual 183, 3) := by decide +kernel
theorem dX11_free_67 : decode cX11_free 67 = .ok (.ireturn, 1) := by decide +kernel
theorem dX11_plan_0 : decode cX11_plan 0 = .ok (.aload_n 0, 1) := by decide +kernel
theorem dX11_plan_1 : decode cX11_plan 1 = .ok (.iload_n 2, 1) := by decide +kernel
theorem dX11_plan_2 : decode cX11_plan 2 = .ok (.invokevirtual 46, 3) := by decide +kernel
theorem dX11_plan_5 : decode cX11_plan 5 = .ok (.astore 4, 2) := by decide +kernel
theorem dX11_plan_7 : decode cX11_plan 7 = .ok (.aload 4, 2) := by decide +kernel
theorem dX11_plan_9 : decode cX11_plan 9 = .ok (.ifnull 22, 3) := by decide +kernel
theorem dX11_plan_12 : decode cX11_plan 12 = .ok (.iload_n 1, 1) := by decide +kernel
theorem dX11_plan_13 : decode cX11_plan 13 = .ok (.iconst 1, 1) := by decide +kernel
theorem dX11_plan_14 : decode cX11_plan 14 = .ok (.if_icmp .lt 17, 3) := by decide +kernel
theorem dX11_plan_17 : decode cX11_plan 17 = .ok (.iload_n 1, 1) := by decide +kernel
theorem dX11_plan_18 : decode cX11_plan 18 = .ok (.iconst 2, 1) := by decide +kernel
theorem dX11_plan_19 : decode cX11_plan 19 = .ok (.if_icmp .gt 12, 3) := by decide +kernel
theorem dX11_plan_22 : decode cX11_plan 22 = .ok (.iload_n 3, 1) := by decide +kernel
theorem dX11_plan_23 : decode cX11_plan 23 = .ok (.ifCond .lt 8, 3) := by decide +kernel
theorem dX11_plan_26 : decode cX11_plan 26 = .ok (.iload_n 3, 1) := by decide +kernel
theorem dX11_plan_27 : decode cX11_plan 27 = .ok (.iconst 1, 1) := by decide +kernel
theorem dX11_plan_28 : decode cX11_plan 28 = .ok (.if_icmp .le 6, 3) := by decide +kernel
theorem dX11_plan_31 : decode cX11_plan 31 = .ok (.ldc 187, 2) := by decide +kernel
theorem dX11_plan_33 : decode cX11_plan 33 = .ok (.ireturn, 1) := by decide +kernel
theorem dX11_plan_34 : decode cX11_plan 34 = .ok (.aload 4, 2) := by decide +kernel
theorem dX11_plan_36 : decode cX11_plan 36 = .ok (.invokevirtual 188, 3) := by decide +kernel
theorem dX11_plan_39 : decode cX11_plan 39 = .ok (.istore 5, 2) := by decide +kernel
theorem dX11_plan_41 : decode cX11_plan 41 = .ok (.iload 5, 2) := by decide +kernel
theorem dX11_plan_43 : decode cX11_plan 43 = .ok (.ifCond .ne 15, 3) := by decide +kernel
theorem dX11_plan_46 : decode cX11_plan 46 = .ok (.aload 4, 2) := by decide +kernel
theorem dX11_plan_48 : decode cX11_plan 48 = .ok (.invokestatic 191, 3) := by decide +kernel
theorem dX11_plan_51 : decode cX11_plan 51 = .ok (.ifCond .ne 7, 3) := by decide +kernel
theorem dX11_plan_54 : decode cX11_plan 54 = .ok (.bipush (-13), 2) := by decide +kernel
theorem dX11_plan_56 : decode cX11_plan 56 = .ok (.istore 5, 2) := by decide +kernel
theorem dX11_plan_58 : decode cX11_plan 58 = .ok (.iload 5, 2) := by decide +kernel
theorem dX11_plan_60 : decode cX11_plan 60 = .ok (.ifCond .eq 9, 3) := by decide +kernel
theorem dX11_plan_63 : decode cX11_plan 63 = .ok (.ldc 195, 2) := by decide +kernel
theorem dX11_plan_65 : decode cX11_plan 65 = .ok (.iload 5, 2) := by decide +kernel
theorem dX11_plan_67 : decode cX11_plan 67 = .ok (.iadd, 1) := by decide +kernel
theorem dX11_plan_68 : decode cX11_plan 68 = .ok (.ireturn, 1) := by decide +kernel
theorem dX11_plan_69 : decode cX11_plan 69 = .ok (.aload_n 0, 1) := by decide +kernel
theorem dX11_plan_70 : decode cX11_plan 70 = .ok (.invokevirtual 196, 3) := by decide +kernel
theorem dX11_plan_73 : decode cX11_plan 73 = .ok (.aload_n 0, 1) := by decide +kernel
theorem dX11_plan_74 : decode cX11_plan 74 = .ok (.iload_n 1, 1) := by decide +kernel
theorem dX11_plan_75 : decode cX11_plan 75 = .ok (.aload 4, 2) := by decide +kernel
theorem dX11_plan_77 : decode cX11_plan 77 = .ok (.invokevirtual 199, 3) := by decide +kernel
theorem dX11_plan_80 : decode cX11_plan 80 = .ok (.istore 6, 2) := by decide +kernel
theorem dX11_plan_82 : decode cX11_plan 82 = .ok (.iload_n 3, 1) := by decide +kernel
theorem dX11_plan_83 : decode cX11_plan 83 = .ok (.iconst 1, 1) := by decide +kernel
theorem dX11_plan_84 : decode cX11_plan 84 = .ok (.if_icmp .ne 8, 3) := by decide +kernel
theorem dX11_plan_87 : decode cX11_plan 87 = .ok (.iload 6, 2) := by decide +kernel
theorem dX11_plan_89 : decode cX11_plan 89 = .ok (.goto 12, 3) := by decide +kernel
theorem dX11_plan_92 : decode cX11_plan 92 = .ok (.aload_n 0, 1) := by decide +kernel
theorem dX11_plan_93 : decode cX11_plan 93 = .ok (.iload 6, 2) := by decide +kernel
theorem dX11_plan_95 : decode cX11_plan 95 = .ok (.iload_n 1, 1) := by decide +kernel
theorem dX11_plan_96 : decode cX11_plan 96 = .ok (.aload 4, 2) := by decide +kernel
theorem dX11_plan_98 : decode cX11_plan 98 = .ok (.invokevirtual 203, 3) := by decide +kernel
theorem dX11_plan_101 : decode cX11_plan 101 = .ok (.ireturn, 1) := by decide +kernel
theorem dX11_ever_0 : decode cX11_ever 0 = .ok (.aload_n 0, 1) := by decide +kernel
theorem dX11_ever_1 : decode cX11_ever 1 = .ok (.getfield 10, 3) := by decide +kernel
theorem dX11_ever_4 : decode cX11_ever 4 = .ok (.getfield 94, 3) := by decide +kernel
theorem dX11_ever_7 : decode cX11_ever 7 = .ok (.istore_n 1, 1) := by decide +kernel
theorem dX11_ever_8 : decode cX11_ever 8 = .ok (.iconst 0, 1) := by decide +kernel
theorem dX11_ever_9 : decode cX11_ever 9 = .ok (.istore_n 2, 1) := by decide +kernel
theorem dX11_ever_10 : decode cX11_ever 10 = .ok (.iload_n 2, 1) := by decide +kernel
theorem dX11_ever_11 : decode cX11_ever 11 = .ok (.bipush 10, 2) := by decide +kernel
theorem dX11_ever_13 : decode cX11_ever 13 = .ok (.if_icmp .ge 60, 3) := by decide +kernel
theorem dX11_ever_16 : decode cX11_ever 16 = .ok (.iconst 0, 1) := by decide +kernel
theorem dX11_ever_17 : decode cX11_ever 17 = .ok (.istore_n 3, 1) := by decide +kernel
theorem dX11_ever_18 : decode cX11_ever 18 = .ok (.iload_n 3, 1) := by decide +kernel
theorem dX11_ever_19 : decode cX11_ever 19 = .ok (.aload_n 0, 1) := by decide +kernel
theorem dX11_ever_20 : decode cX11_ever 20 = .ok (.getfield 10, 3) := by decide +kernel
theorem dX11_ever_23 : decode cX11_ever 23 = .ok (.getfield 207, 3) := by decide +kernel
theorem dX11_ever_26 : decode cX11_ever 26 = .ok (.if_icmp .ge 41, 3) := by decide +kernel
theorem dX11_ever_29 : decode cX11_ever 29 = .ok (.aload_n 0, 1) := by decide +kernel
theorem dX11_ever_30 : decode cX11_ever 30 = .ok (.getfield 10, 3) := by decide +kernel
theorem dX11_ever_33 : decode cX11_ever 33 = .ok (.iload_n 3, 1) := by decide +kernel
theorem dX11_ever_34 : decode cX11_ever 34 = .ok (.invokevirtual 62, 3) := by decide +kernel
theorem dX11_ever_37 : decode cX11_ever 37 = .ok (.astore 4, 2) := by decide +kernel
theorem dX11_ever_39 : decode cX11_ever 39 = .ok (.aload 4, 2) := by decide +kernel
theorem dX11_ever_41 : decode cX11_ever 41 = .ok (.ifnull 20, 3) := by decide +kernel
theorem dX11_ever_44 : decode cX11_ever 44 = .ok (.aload 4, 2) := by decide +kernel
theorem dX11_ever_46 : decode cX11_ever 46 = .ok (.iload_n 1, 1) := by decide +kernel
theorem dX11_ever_47 : decode cX11_ever 47 = .ok (.invokevirtual 210, 3) := by decide +kernel
theorem dX11_ever_50 : decode cX11_ever 50 = .ok (.ifCond .eq 11, 3) := by decide +kernel
theorem dX11_ever_53 : decode cX11_ever 53 = .ok (.iload_n 1, 1) := by decide +kernel
theorem dX11_ever_54 : decode cX11_ever 54 = .ok (.aload 4, 2) := by decide +kernel
theorem dX11_ever_56 : decode cX11_ever 56 = .ok (.getfield 213, 3) := by decide +kernel
theorem dX11_ever_59 : decode cX11_ever 59 = .ok (.ior, 1) := by decide +kernel
theorem dX11_ever_60 : decode cX11_ever 60 = .ok (.istore_n 1, 1) := by decide +kernel
theorem dX11_ever_61 : decode cX11_ever 61 = .ok (.iinc 3 1, 3) := by decide +kernel
theorem dX11_ever_64 : decode cX11_ever 64 = .ok (.goto (-46), 3) := by decide +kernel
theorem dX11_ever_67 : decode cX11_ever 67 = .ok (.iinc 2 1, 3) := by decide +kernel
theorem dX11_ever_70 : decode cX11_ever 70 = .ok (.goto (-60), 3) := by decide +kernel
theorem dX11_ever_73 : decode cX11_ever 73 = .ok (.iload_n 1, 1) := by decide +kernel
theorem dX11_ever_74 : decode cX11_ever 74 = .ok (.ireturn, 1) := by decide +kernel
theorem dX11_help_0 : decode cX11_help 0 = .ok (.iconst 0, 1) := by decide +kernel
theorem dX11_help_1 : decode cX11_help 1 = .ok (.istore_n 1, 1) := by decide +kernel
theorem dX11_help_2 : decode cX11_help 2 = .ok (.iconst 0, 1) := by decide +kernel
theorem dX11_help_3 : decode cX11_help 3 = .ok (.istore_n 2, 1) := by decide +kernel
theorem dX11_help_4 : decode cX11_help 4 = .ok (.iload_n 2, 1) := by decide +kernel
theorem dX11_help_5 : decode cX11_help 5 = .ok (.aload_n 0, 1) := by decide +kernel
theorem dX11_help_6 : decode cX11_help 6 = .ok (.getfield 10, 3) := by decide +kernel
theorem dX11_help_9 : decode cX11_help 9 = .ok (.getfield 207, 3) := by decide +kernel
theorem dX11_help_12 : decode cX11_help 12 = .ok (.if_icmp .ge 58, 3) := by decide +kernel
theorem dX11_help_15 : decode cX11_help 15 = .ok (.aload_n 0, 1) := by decide +kernel
theorem dX11_help_16 : decode cX11_help 16 = .ok (.getfield 10, 3) := by decide +kernel
theorem dX11_help_19 : decode cX11_help 19 = .ok (.iload_n 2, 1) := by decide +kernel
theorem dX11_help_20 : decode cX11_help 20 = .ok (.invokevirtual 62, 3) := by decide +kernel
theorem dX11_help_23 : decode cX11_help 23 = .ok (.astore_n 3, 1) := by decide +kernel
theorem dX11_help_24 : decode cX11_help 24 = .ok (.aload_n 3, 1) := by decide +kernel
theorem dX11_help_25 : decode cX11_help 25 = .ok (.ifnull 39, 3) := by decide +kernel
theorem dX11_help_28 : decode cX11_help 28 = .ok (.aload_n 3, 1) := by decide +kernel
theorem dX11_help_29 : decode cX11_help 29 = .ok (.aload_n 0, 1) := by decide +kernel
theorem dX11_help_30 : decode cX11_help 30 = .ok (.getfield 10, 3) := by decide +kernel
theorem dX11_help_33 : decode cX11_help 33 = .ok (.getfield 94, 3) := by decide +kernel
theorem dX11_help_36 : decode cX11_help 36 = .ok (.aload_n 0, 1) := by decide +kernel
theorem dX11_help_37 : decode cX11_help 37 = .ok (.getfield 10, 3) := by decide +kernel
theorem dX11_help_40 : decode cX11_help 40 = .ok (.getfield 97, 3) := by decide +kernel
theorem dX11_help_43 : decode cX11_help 43 = .ok (.invokevirtual 122, 3) := by decide +kernel
theorem dX11_help_46 : decode cX11_help 46 = .ok (.ifCond .eq 18, 3) := by decide +kernel
theorem dX11_help_49 : decode cX11_help 49 = .ok (.iload_n 1, 1) := by decide +kernel
theorem dX11_help_50 : decode cX11_help 50 = .ok (.aload_n 0, 1) := by decide +kernel
theorem dX11_help_51 : decode cX11_help 51 = .ok (.getfield 10, 3) := by decide +kernel
theorem dX11_help_54 : decode cX11_help 54 = .ok (.getfield 94, 3) := by decide +kernel
theorem dX11_help_57 : decode cX11_help 57 = .ok (.aload_n 3, 1) := by decide +kernel
theorem dX11_help_58 : decode cX11_help 58 = .ok (.getfield 216, 3) := by decide +kernel
theorem dX11_help_61 : decode cX11_help 61 = .ok (.iand, 1) := by decide +kernel
theorem dX11_help_62 : decode cX11_help 62 = .ok (.ior, 1) := by decide +kernel
theorem dX11_help_63 : decode cX11_help 63 = .ok (.istore_n 1, 1) := by decide +kernel
theorem dX11_help_64 : decode cX11_help 64 = .ok (.iinc 2 1, 3) := by decide +kernel
theorem dX11_help_67 : decode cX11_help 67 = .ok (.goto (-63), 3) := by decide +kernel
theorem dX11_help_70 : decode cX11_help 70 = .ok (.iload_n 1, 1) := by decide +kernel
theorem dX11_help_71 : decode cX11_help 71 = .ok (.ireturn, 1) := by decide +kernel
theorem dX11_two_0 : decode cX11_two 0 = .ok (.aload_n 0, 1) := by decide +kernel
theorem dX11_two_1 : decode cX11_two 1 = .ok (.iload_n 1, 1) := by decide +kernel
theorem dX11_two_2 : decode cX11_two 2 = .ok (.invokevirtual 46, 3) := by decide +kernel
theorem dX11_two_5 : decode cX11_two 5 = .ok (.astore 6, 2) := by decide +kernel
theorem dX11_two_7 : decode cX11_two 7 = .ok (.aload_n 0, 1) := by decide +kernel
theorem dX11_two_8 : decode cX11_two 8 = .ok (.iload_n 2, 1) := by decide +kernel
theorem dX11_two_9 : decode cX11_two 9 = .ok (.invokevirtual 46, 3) := by decide +kernel
theorem dX11_two_12 : decode cX11_two 12 = .ok (.astore 7, 2) := by decide +kernel
theorem dX11_two_14 : decode cX11_two 14 = .ok (.aload 6, 2) := by decide +kernel
theorem dX11_two_16 : decode cX11_two 16 = .ok (.ifnull 34, 3) := by decide +kernel
theorem dX11_two_19 : decode cX11_two 19 = .ok (.aload 7, 2) := by decide +kernel
theorem dX11_two_21 : decode cX11_two 21 = .ok (.ifnull 29, 3) := by decide +kernel
theorem dX11_two_24 : decode cX11_two 24 = .ok (.iload_n 3, 1) := by decide +kernel
theorem dX11_two_25 : decode cX11_two 25 = .ok (.invokestatic 219, 3) := by decide +kernel
theorem dX11_two_28 : decode cX11_two 28 = .ok (.ifCond .eq 22, 3) := by decide +kernel
theorem dX11_two_31 : decode cX11_two 31 = .ok (.iload 4, 2) := by decide +kernel
theorem dX11_two_33 : decode cX11_two 33 = .ok (.invokestatic 219, 3) := by decide +kernel
theorem dX11_two_36 : decode cX11_two 36 = .ok (.ifCond .eq 14, 3) := by decide +kernel
theorem dX11_two_39 : decode cX11_two 39 = .ok (.iload 5, 2) := by decide +kernel
theorem dX11_two_41 : decode cX11_two 41 = .ok (.ifCond .lt 9, 3) := by decide +kernel
theorem dX11_two_44 : decode cX11_two 44 = .ok (.iload 5, 2) := by decide +kernel
theorem dX11_two_46 : decode cX11_two 46 = .ok (.iconst 1, 1) := by decide +kernel
theorem dX11_two_47 : decode cX11_two 47 = .ok (.if_icmp .le 5, 3) := by decide +kernel
theorem dX11_two_50 : decode cX11_two 50 = .ok (.iconst (-1), 1) := by decide +kernel
theorem dX11_two_51 : decode cX11_two 51 = .ok (.ireturn, 1) := by decide +kernel
theorem dX11_two_52 : decode cX11_two 52 = .ok (.aload_n 0, 1) := by decide +kernel
theorem dX11_two_53 : decode cX11_two 53 = .ok (.iload_n 1, 1) := by decide +kernel
theorem dX11_two_54 : decode cX11_two 54 = .ok (.invokevirtual 179, 3) := by decide +kernel
theorem dX11_two_57 : decode cX11_two 57 = .ok (.istore 8, 2) := by decide +kernel
theorem dX11_two_59 : decode cX11_two 59 = .ok (.iload 8, 2) := by decide +kernel
theorem dX11_two_61 : decode cX11_two 61 = .ok (.ifCond .ne 10, 3) := by decide +kernel
theorem dX11_two_64 : decode cX11_two 64 = .ok (.aload_n 0, 1) := by decide +kernel
theorem dX11_two_65 : decode cX11_two 65 = .ok (.iload_n 2, 1) := by decide +kernel
theorem dX11_two_66 : decode cX11_two 66 = .ok (.invokevirtual 179, 3) := by decide +kernel
theorem dX11_two_69 : decode cX11_two 69 = .ok (.istore 8, 2) := by decide +kernel
theorem dX11_two_71 : decode cX11_two 71 = .ok (.iload 8, 2) := by decide +kernel
theorem dX11_two_73 : decode cX11_two 73 = .ok (.ifCond .eq 6, 3) := by decide +kernel
theorem dX11_two_76 : decode cX11_two 76 = .ok (.iload 8, 2) := by decide +kernel
theorem dX11_two_78 : decode cX11_two 78 = .ok (.ireturn, 1) := by decide +kernel
theorem dX11_two_79 : decode cX11_two 79 = .ok (.aload_n 0, 1) := by decide +kernel
theorem dX11_two_80 : decode cX11_two 80 = .ok (.aload 6, 2) := by decide +kernel
theorem dX11_two_82 : decode cX11_two 82 = .ok (.aload 7, 2) := by decide +kernel
theorem dX11_two_84 : decode cX11_two 84 = .ok (.iload_n 3, 1) := by decide +kernel
theorem dX11_two_85 : decode cX11_two 85 = .ok (.iload 4, 2) := by decide +kernel
theorem dX11_two_87 : decode cX11_two 87 = .ok (.invokevirtual 222, 3) := by decide +kernel
theorem dX11_two_90 : decode cX11_two 90 = .ok (.istore 9, 2) := by decide +kernel
theorem dX11_two_92 : decode cX11_two 92 = .ok (.aload_n 0, 1) := by decide +kernel
theorem dX11_two_93 : decode cX11_two 93 = .ok (.getfield 25, 3) := by decide +kernel
theorem dX11_two_96 : decode cX11_two 96 = .ok (.invokevirtual 134, 3) := by decide +kernel
theorem dX11_two_99 : decode cX11_two 99 = .ok (.iload 5, 2) := by decide +kernel
theorem dX11_two_101 : decode cX11_two 101 = .ok (.ifCond .ne 8, 3) := by decide +kernel
theorem dX11_two_104 : decode cX11_two 104 = .ok (.iload 9, 2) := by decide +kernel
theorem dX11_two_106 : decode cX11_two 106 = .ok (.goto 7, 3) := by decide +kernel
theorem dX11_two_109 : decode cX11_two 109 = .ok (.iload 9, 2) := by decide +kernel
theorem dX11_two_111 : decode cX11_two 111 = .ok (.iconst (-1), 1) := by decide +kernel
theorem dX11_two_112 : decode cX11_two 112 = .ok (.ixor, 1) := by decide +kernel
theorem dX11_two_113 : decode cX11_two 113 = .ok (.iand, 1) := by decide +kernel
theorem dX11_two_114 : decode cX11_two 114 = .ok (.invokestatic 137, 3) := by decide +kernel
theorem dX11_two_117 : decode cX11_two 117 = .ok (.ireturn, 1) := by decide +kernel
theorem dX11_month_0 : decode cX11_month 0 = .ok (.iconst 0, 1) := by decide +kernel
theorem dX11_month_1 : decode cX11_month 1 = .ok (.istore_n 1, 1) := by decide +kernel
theorem dX11_month_2 : decode cX11_month 2 = .ok (.iconst 1, 1) := by decide +kernel
theorem dX11_month_3 : decode cX11_month 3 = .ok (.istore_n 2, 1) := by decide +kernel
theorem dX11_month_4 : decode cX11_month 4 = .ok (.iload_n 2, 1) := by decide +kernel
theorem dX11_month_5 : decode cX11_month 5 = .ok (.bipush 8, 2) := by decide +kernel
theorem dX11_month_7 : decode cX11_month 7 = .ok (.if_icmp .ge 30, 3) := by decide +kernel
theorem dX11_month_10 : decode cX11_month 10 = .ok (.aload_n 0, 1) := by decide +kernel
theorem dX11_month_11 : decode cX11_month 11 = .ok (.getfield 10, 3) := by decide +kernel
theorem dX11_month_14 : decode cX11_month 14 = .ok (.iload_n 2, 1) := by decide +kernel
theorem dX11_month_15 : decode cX11_month 15 = .ok (.invokevirtual 226, 3) := by decide +kernel
theorem dX11_month_18 : decode cX11_month 18 = .ok (.aload_n 0, 1) := by decide +kernel
theorem dX11_month_19 : decode cX11_month 19 = .ok (.getfield 10, 3) := by decide +kernel
theorem dX11_month_22 : decode cX11_month 22 = .ok (.iload_n 1, 1) := by decide +kernel
theorem dX11_month_23 : decode cX11_month 23 = .ok (.invokevirtual 226, 3) := by decide +kernel
theorem dX11_month_26 : decode cX11_month 26 = .ok (.if_icmp .ge 5, 3) := by decide +kernel
theorem dX11_month_29 : decode cX11_month 29 = .ok (.iload_n 2, 1) := by decide +kernel
theorem dX11_month_30 : decode cX11_month 30 = .ok (.istore_n 1, 1) := by decide +kernel
theorem dX11_month_31 : decode cX11_month 31 = .ok (.iinc 2 1, 3) := by decide +kernel
theorem dX11_month_34 : decode cX11_month 34 = .ok (.goto (-30), 3) := by decide +kernel
theorem dX11_month_37 : decode cX11_month 37 = .ok (.iload_n 1, 1) := by decide +kernel
theorem dX11_month_38 : decode cX11_month 38 = .ok (.ireturn, 1) := by decide +kernel
theorem dX11_nail_0 : decode cX11_nail 0 = .ok (.iload_n 1, 1) := by decide +kernel
theorem dX11_nail_1 : decode cX11_nail 1 = .ok (.ifCond .lt 9, 3) := by decide +kernel
theorem dX11_nail_4 : decode cX11_nail 4 = .ok (.iload_n 1, 1) := by decide +kernel
theorem dX11_nail_5 : decode cX11_nail 5 = .ok (.bipush 8, 2) := by decide +kernel
theorem dX11_nail_7 : decode cX11_nail 7 = .ok (.if_icmp .lt 7, 3) := by decide +kernel
theorem dX11_nail_10 : decode cX11_nail 10 = .ok (.iconst (-1), 1) := by decide +kernel
theorem dX11_nail_11 : decode cX11_nail 11 = .ok (.goto 11, 3) := by decide +kernel
theorem dX11_nail_14 : decode cX11_nail 14 = .ok (.aload_n 0, 1) := by decide +kernel
theorem dX11_nail_15 : decode cX11_nail 15 = .ok (.getfield 10, 3) := by decide +kernel
theorem dX11_nail_18 : decode cX11_nail 18 = .ok (.iload_n 1, 1) := by decide +kernel
theorem dX11_nail_19 : decode cX11_nail 19 = .ok (.invokevirtual 226, 3) := by decide +kernel
theorem dX11_nail_22 : decode cX11_nail 22 = .ok (.ireturn, 1) := by decide +kernel
theorem dX11_byLaw_0 : decode cX11_byLaw 0 = .ok (.iload_n 1, 1) := by decide +kernel
theorem dX11_byLaw_1 : decode cX11_byLaw 1 = .ok (.ifCond .lt 15, 3) := by decide +kernel
theorem dX11_byLaw_4 : decode cX11_byLaw 4 = .ok (.iload_n 1, 1) := by decide +kernel
theorem dX11_byLaw_5 : decode cX11_byLaw 5 = .ok (.iconst 3, 1) := by decide +kernel
theorem dX11_byLaw_6 : decode cX11_byLaw 6 = .ok (.if_icmp .ge 10, 3) := by decide +kernel
theorem dX11_byLaw_9 : decode cX11_byLaw 9 = .ok (.iload_n 3, 1) := by decide +kernel
theorem dX11_byLaw_10 : decode cX11_byLaw 10 = .ok (.invokestatic 219, 3) := by decide +kernel
theorem dX11_byLaw_13 : decode cX11_byLaw 13 = .ok (.ifCond .ne 5, 3) := by decide +kernel
theorem dX11_byLaw_16 : decode cX11_byLaw 16 = .ok (.iconst (-1), 1) := by decide +kernel
theorem dX11_byLaw_17 : decode cX11_byLaw 17 = .ok (.ireturn, 1) := by decide +kernel
theorem dX11_byLaw_18 : decode cX11_byLaw 18 = .ok (.aload_n 0, 1) := by decide +kernel
theorem dX11_byLaw_19 : decode cX11_byLaw 19 = .ok (.iload_n 2, 1) := by decide +kernel
theorem dX11_byLaw_20 : decode cX11_byLaw 20 = .ok (.invokevirtual 142, 3) := by decide +kernel
theorem dX11_byLaw_23 : decode cX11_byLaw 23 = .ok (.istore 4, 2) := by decide +kernel
theorem dX11_byLaw_25 : decode cX11_byLaw 25 = .ok (.iload 4, 2) := by decide +kernel
theorem dX11_byLaw_27 : decode cX11_byLaw 27 = .ok (.ifCond .eq 6, 3) := by decide +kernel
theorem dX11_byLaw_30 : decode cX11_byLaw 30 = .ok (.iload 4, 2) := by decide +kernel
theorem dX11_byLaw_32 : decode cX11_byLaw 32 = .ok (.ireturn, 1) := by decide +kernel
theorem dX11_byLaw_33 : decode cX11_byLaw 33 = .ok (.aload_n 0, 1) := by decide +kernel
theorem dX11_byLaw_34 : decode cX11_byLaw 34 = .ok (.getfield 25, 3) := by decide +kernel
theorem dX11_byLaw_37 : decode cX11_byLaw 37 = .ok (.iload_n 1, 1) := by decide +kernel
theorem dX11_byLaw_38 : decode cX11_byLaw 38 = .ok (.putfield 229, 3) := by decide +kernel
theorem dX11_byLaw_41 : decode cX11_byLaw 41 = .ok (.aload_n 0, 1) := by decide +kernel
theorem dX11_byLaw_42 : decode cX11_byLaw 42 = .ok (.getfield 25, 3) := by decide +kernel
theorem dX11_byLaw_45 : decode cX11_byLaw 45 = .ok (.iload_n 3, 1) := by decide +kernel
theorem dX11_byLaw_46 : decode cX11_byLaw 46 = .ok (.invokevirtual 176, 3) := by decide +kernel
theorem dX11_byLaw_49 : decode cX11_byLaw 49 = .ok (.aload_n 0, 1) := by decide +kernel
theorem dX11_byLaw_50 : decode cX11_byLaw 50 = .ok (.getfield 25, 3) := by decide +kernel
theorem dX11_byLaw_53 : decode cX11_byLaw 53 = .ok (.getfield 155, 3) := by decide +kernel
theorem dX11_byLaw_56 : decode cX11_byLaw 56 = .ok (.invokestatic 137, 3) := by decide +kernel
theorem dX11_byLaw_59 : decode cX11_byLaw 59 = .ok (.ireturn, 1) := by decide +kernel
theorem dX11_seeded_0 : decode cX11_seeded 0 = .ok (.iload_n 1, 1) := by decide +kernel
theorem dX11_seeded_1 : decode cX11_seeded 1 = .ok (.iconst 1, 1) := by decide +kernel
theorem dX11_seeded_2 : decode cX11_seeded 2 = .ok (.if_icmp .lt 18, 3) := by decide +kernel
theorem dX11_seeded_5 : decode cX11_seeded 5 = .ok (.iload_n 1, 1) := by decide +kernel
theorem dX11_seeded_6 : decode cX11_seeded 6 = .ok (.bipush 30, 2) := by decide +kernel
theorem dX11_seeded_8 : decode cX11_seeded 8 = .ok (.if_icmp .gt 12, 3) := by decide +kernel
theorem dX11_seeded_11 : decode cX11_seeded 11 = .ok (.iload_n 3, 1) := by decide +kernel
theorem dX11_seeded_12 : decode cX11_seeded 12 = .ok (.ifCond .lt 8, 3) := by decide +kernel
theorem dX11_seeded_15 : decode cX11_seeded 15 = .ok (.iload_n 3, 1) := by decide +kernel
theorem dX11_seeded_16 : decode cX11_seeded 16 = .ok (.iconst 2, 1) := by decide +kernel
theorem dX11_seeded_17 : decode cX11_seeded 17 = .ok (.if_icmp .le 5, 3) := by decide +kernel
theorem dX11_seeded_20 : decode cX11_seeded 20 = .ok (.iconst (-1), 1) := by decide +kernel
theorem dX11_seeded_21 : decode cX11_seeded 21 = .ok (.ireturn, 1) := by decide +kernel
theorem dX11_seeded_22 : decode cX11_seeded 22 = .ok (.aload_n 0, 1) := by decide +kernel
theorem dX11_seeded_23 : decode cX11_seeded 23 = .ok (.getfield 10, 3) := by decide +kernel
theorem dX11_seeded_26 : decode cX11_seeded 26 = .ok (.getfield 207, 3) := by decide +kernel
theorem dX11_seeded_29 : decode cX11_seeded 29 = .ok (.ifCond .ne 6, 3) := by decide +kernel
theorem dX11_seeded_32 : decode cX11_seeded 32 = .ok (.bipush (-3), 2) := by decide +kernel
theorem dX11_seeded_34 : decode cX11_seeded 34 = .ok (.ireturn, 1) := by decide +kernel
theorem dX11_seeded_35 : decode cX11_seeded 35 = .ok (.aload_n 0, 1) := by decide +kernel
theorem dX11_seeded_36 : decode cX11_seeded 36 = .ok (.iload_n 1, 1) := by decide +kernel
theorem dX11_seeded_37 : decode cX11_seeded 37 = .ok (.iload_n 2, 1) := by decide +kernel
theorem dX11_seeded_38 : decode cX11_seeded 38 = .ok (.invokevirtual 230, 3) := by decide +kernel
theorem dX11_seeded_41 : decode cX11_seeded 41 = .ok (.istore 4, 2) := by decide +kernel
theorem dX11_seeded_43 : decode cX11_seeded 43 = .ok (.iload_n 3, 1) := by decide +kernel
theorem dX11_seeded_44 : decode cX11_seeded 44 = .ok (.ifCond .ne 13, 3) := by decide +kernel
theorem dX11_seeded_47 : decode cX11_seeded 47 = .ok (.aload_n 0, 1) := by decide +kernel
theorem dX11_seeded_48 : decode cX11_seeded 48 = .ok (.getfield 25, 3) := by decide +kernel
theorem dX11_seeded_51 : decode cX11_seeded 51 = .ok (.getfield 155, 3) := by decide +kernel
theorem dX11_seeded_54 : decode cX11_seeded 54 = .ok (.goto 20, 3) := by decide +kernel
theorem dX11_seeded_57 : decode cX11_seeded 57 = .ok (.iload_n 3, 1) := by decide +kernel
theorem dX11_seeded_58 : decode cX11_seeded 58 = .ok (.iconst 1, 1) := by decide +kernel
theorem dX11_seeded_59 : decode cX11_seeded 59 = .ok (.if_icmp .ne 13, 3) := by decide +kernel
theorem dX11_seeded_62 : decode cX11_seeded 62 = .ok (.aload_n 0, 1) := by decide +kernel
theorem dX11_seeded_63 : decode cX11_seeded 63 = .ok (.getfield 25, 3) := by decide +kernel
theorem dX11_seeded_66 : decode cX11_seeded 66 = .ok (.getfield 162, 3) := by decide +kernel
theorem dX11_seeded_69 : decode cX11_seeded 69 = .ok (.goto 5, 3) := by decide +kernel
theorem dX11_seeded_72 : decode cX11_seeded 72 = .ok (.iload 4, 2) := by decide +kernel
theorem dX11_seeded_74 : decode cX11_seeded 74 = .ok (.ireturn, 1) := by decide +kernel
theorem dX11_judge_0 : decode cX11_judge 0 = .ok (.aload_n 0, 1) := by decide +kernel
theorem dX11_judge_1 : decode cX11_judge 1 = .ok (.iload_n 3, 1) := by decide +kernel
theorem dX11_judge_2 : decode cX11_judge 2 = .ok (.invokevirtual 46, 3) := by decide +kernel
theorem dX11_judge_5 : decode cX11_judge 5 = .ok (.astore 4, 2) := by decide +kernel
theorem dX11_judge_7 : decode cX11_judge 7 = .ok (.aload 4, 2) := by decide +kernel
theorem dX11_judge_9 : decode cX11_judge 9 = .ok (.ifnull 10, 3) := by decide +kernel
theorem dX11_judge_12 : decode cX11_judge 12 = .ok (.iload_n 2, 1) := by decide +kernel
theorem dX11_judge_13 : decode cX11_judge 13 = .ok (.invokestatic 219, 3) := by decide +kernel
theorem dX11_judge_16 : decode cX11_judge 16 = .ok (.ifCond .ne 5, 3) := by decide +kernel
theorem dX11_judge_19 : decode cX11_judge 19 = .ok (.iconst (-1), 1) := by decide +kernel
theorem dX11_judge_20 : decode cX11_judge 20 = .ok (.ireturn, 1) := by decide +kernel
theorem dX11_judge_21 : decode cX11_judge 21 = .ok (.aload_n 0, 1) := by decide +kernel
theorem dX11_judge_22 : decode cX11_judge 22 = .ok (.iload_n 1, 1) := by decide +kernel
theorem dX11_judge_23 : decode cX11_judge 23 = .ok (.invokevirtual 142, 3) := by decide +kernel
theorem dX11_judge_26 : decode cX11_judge 26 = .ok (.istore 5, 2) := by decide +kernel
theorem dX11_judge_28 : decode cX11_judge 28 = .ok (.iload 5, 2) := by decide +kernel
theorem dX11_judge_30 : decode cX11_judge 30 = .ok (.ifCond .ne 10, 3) := by decide +kernel
theorem dX11_judge_33 : decode cX11_judge 33 = .ok (.aload 4, 2) := by decide +kernel
theorem dX11_judge_35 : decode cX11_judge 35 = .ok (.invokevirtual 188, 3) := by decide +kernel
theorem dX11_judge_38 : decode cX11_judge 38 = .ok (.istore 5, 2) := by decide +kernel
theorem dX11_judge_40 : decode cX11_judge 40 = .ok (.iload 5, 2) := by decide +kernel
theorem dX11_judge_42 : decode cX11_judge 42 = .ok (.ifCond .eq 8, 3) := by decide +kernel
theorem dX11_judge_45 : decode cX11_judge 45 = .ok (.iload 5, 2) := by decide +kernel
theorem dX11_judge_47 : decode cX11_judge 47 = .ok (.goto 10, 3) := by decide +kernel
theorem dX11_judge_50 : decode cX11_judge 50 = .ok (.aload_n 0, 1) := by decide +kernel
theorem dX11_judge_51 : decode cX11_judge 51 = .ok (.aload 4, 2) := by decide +kernel
theorem dX11_judge_53 : decode cX11_judge 53 = .ok (.iload_n 2, 1) := by decide +kernel
theorem dX11_judge_54 : decode cX11_judge 54 = .ok (.invokevirtual 233, 3) := by decide +kernel
theorem dX11_judge_57 : decode cX11_judge 57 = .ok (.ireturn, 1) := by decide +kernel
theorem dX11_image_0 : decode cX11_image 0 = .ok (.aload_n 0, 1) := by decide +kernel
theorem dX11_image_1 : decode cX11_image 1 = .ok (.getfield 16, 3) := by decide +kernel
theorem dX11_image_4 : decode cX11_image 4 = .ok (.aload_n 0, 1) := by decide +kernel
theorem dX11_image_5 : decode cX11_image 5 = .ok (.getfield 10, 3) := by decide +kernel
theorem dX11_image_8 : decode cX11_image 8 = .ok (.invokevirtual 54, 3) := by decide +kernel
theorem dX11_image_11 : decode cX11_image 11 = .ok (.aload_n 0, 1) := by decide +kernel
theorem dX11_image_12 : decode cX11_image 12 = .ok (.iconst 1, 1) := by decide +kernel
theorem dX11_image_13 : decode cX11_image 13 = .ok (.putfield 237, 3) := by decide +kernel
theorem dX11_image_16 : decode cX11_image 16 = .ok (.aload_n 0, 1) := by decide +kernel
theorem dX11_image_17 : decode cX11_image 17 = .ok (.getfield 10, 3) := by decide +kernel
theorem dX11_image_20 : decode cX11_image 20 = .ok (.getfield 100, 3) := by decide +kernel
theorem dX11_image_23 : decode cX11_image 23 = .ok (.ireturn, 1) := by decide +kernel
theorem dX11_restore_0 : decode cX11_restore 0 = .ok (.aload_n 0, 1) := by decide +kernel
theorem dX11_restore_1 : decode cX11_restore 1 = .ok (.getfield 237, 3) := by decide +kernel
theorem dX11_restore_4 : decode cX11_restore 4 = .ok (.ifCond .ne 6, 3) := by decide +kernel
theorem dX11_restore_7 : decode cX11_restore 7 = .ok (.bipush (-3), 2) := by decide +kernel
theorem dX11_restore_9 : decode cX11_restore 9 = .ok (.ireturn, 1) := by decide +kernel
theorem dX11_restore_10 : decode cX11_restore 10 = .ok (.aload_n 0, 1) := by decide +kernel
theorem dX11_restore_11 : decode cX11_restore 11 = .ok (.getfield 10, 3) := by decide +kernel
theorem dX11_restore_14 : decode cX11_restore 14 = .ok (.aload_n 0, 1) := by decide +kernel
theorem dX11_restore_15 : decode cX11_restore 15 = .ok (.getfield 16, 3) := by decide +kernel
theorem dX11_restore_18 : decode cX11_restore 18 = .ok (.invokevirtual 54, 3) := by decide +kernel
theorem dX11_restore_21 : decode cX11_restore 21 = .ok (.aload_n 0, 1) := by decide +kernel
theorem dX11_restore_22 : decode cX11_restore 22 = .ok (.getfield 10, 3) := by decide +kernel
theorem dX11_restore_25 : decode cX11_restore 25 = .ok (.getfield 100, 3) := by decide +kernel
theorem dX11_restore_28 : decode cX11_restore 28 = .ok (.ireturn, 1) := by decide +kernel
theorem dX11_count_0 : decode cX11_count 0 = .ok (.iload_n 1, 1) := by decide +kernel
theorem dX11_count_1 : decode cX11_count 1 = .ok (.ifCond .ne 11, 3) := by decide +kernel
theorem dX11_count_4 : decode cX11_count 4 = .ok (.aload_n 0, 1) := by decide +kernel
theorem dX11_count_5 : decode cX11_count 5 = .ok (.getfield 10, 3) := by decide +kernel
theorem dX11_count_8 : decode cX11_count 8 = .ok (.getfield 207, 3) := by decide +kernel
theorem dX11_count_11 : decode cX11_count 11 = .ok (.ireturn, 1) := by decide +kernel
theorem dX11_count_12 : decode cX11_count 12 = .ok (.iload_n 1, 1) := by decide +kernel
theorem dX11_count_13 : decode cX11_count 13 = .ok (.iconst 1, 1) := by decide +kernel
theorem dX11_count_14 : decode cX11_count 14 = .ok (.if_icmp .ne 14, 3) := by decide +kernel
theorem dX11_count_17 : decode cX11_count 17 = .ok (.aload_n 0, 1) := by decide +kernel
theorem dX11_count_18 : decode cX11_count 18 = .ok (.getfield 10, 3) := by decide +kernel
theorem dX11_count_21 : decode cX11_count 21 = .ok (.getfield 94, 3) := by decide +kernel
theorem dX11_count_24 : decode cX11_count 24 = .ok (.invokestatic 137, 3) := by decide +kernel
theorem dX11_count_27 : decode cX11_count 27 = .ok (.ireturn, 1) := by decide +kernel
theorem dX11_count_28 : decode cX11_count 28 = .ok (.iload_n 1, 1) := by decide +kernel
theorem dX11_count_29 : decode cX11_count 29 = .ok (.ifCond .lt 8, 3) := by decide +kernel
theorem dX11_count_32 : decode cX11_count 32 = .ok (.iload_n 1, 1) := by decide +kernel
theorem dX11_count_33 : decode cX11_count 33 = .ok (.iconst 5, 1) := by decide +kernel
theorem dX11_count_34 : decode cX11_count 34 = .ok (.if_icmp .le 5, 3) := by decide +kernel
theorem dX11_count_37 : decode cX11_count 37 = .ok (.iconst (-1), 1) := by decide +kernel
theorem dX11_count_38 : decode cX11_count 38 = .ok (.ireturn, 1) := by decide +kernel
theorem dX11_count_39 : decode cX11_count 39 = .ok (.iconst 0, 1) := by decide +kernel
theorem dX11_count_40 : decode cX11_count 40 = .ok (.istore_n 2, 1) := by decide +kernel
theorem dX11_count_41 : decode cX11_count 41 = .ok (.iconst 0, 1) := by decide +kernel
theorem dX11_count_42 : decode cX11_count 42 = .ok (.istore_n 3, 1) := by decide +kernel
theorem dX11_count_43 : decode cX11_count 43 = .ok (.iload_n 3, 1) := by decide +kernel
theorem dX11_count_44 : decode cX11_count 44 = .ok (.aload_n 0, 1) := by decide +kernel
theorem dX11_count_45 : decode cX11_count 45 = .ok (.getfield 10, 3) := by decide +kernel
theorem dX11_count_48 : decode cX11_count 48 = .ok (.getfield 207, 3) := by decide +kernel
theorem dX11_count_51 : decode cX11_count 51 = .ok (.if_icmp .ge 25, 3) := by decide +kernel
theorem dX11_count_54 : decode cX11_count 54 = .ok (.iload_n 2, 1) := by decide +kernel
theorem dX11_count_55 : decode cX11_count 55 = .ok (.aload_n 0, 1) := by decide +kernel
theorem dX11_count_56 : decode cX11_count 56 = .ok (.aload_n 0, 1) := by decide +kernel
theorem dX11_count_57 : decode cX11_count 57 = .ok (.getfield 10, 3) := by decide +kernel
theorem dX11_count_60 : decode cX11_count 60 = .ok (.iload_n 3, 1) := by decide +kernel
theorem dX11_count_61 : decode cX11_count 61 = .ok (.invokevirtual 62, 3) := by decide +kernel
theorem dX11_count_64 : decode cX11_count 64 = .ok (.iload_n 1, 1) := by decide +kernel
theorem dX11_count_65 : decode cX11_count 65 = .ok (.invokevirtual 240, 3) := by decide +kernel
theorem dX11_count_68 : decode cX11_count 68 = .ok (.iadd, 1) := by decide +kernel
theorem dX11_count_69 : decode cX11_count 69 = .ok (.istore_n 2, 1) := by decide +kernel
theorem dX11_count_70 : decode cX11_count 70 = .ok (.iinc 3 1, 3) := by decide +kernel
theorem dX11_count_73 : decode cX11_count 73 = .ok (.goto (-30), 3) := by decide +kernel
theorem dX11_count_76 : decode cX11_count 76 = .ok (.iload_n 2, 1) := by decide +kernel
theorem dX11_count_77 : decode cX11_count 77 = .ok (.ireturn, 1) := by decide +kernel
theorem dX11_keep_0 : decode cX11_keep 0 = .ok (.aload_n 0, 1) := by decide +kernel
theorem dX11_keep_1 : decode cX11_keep 1 = .ok (.iload_n 1, 1) := by decide +kernel
theorem dX11_keep_2 : decode cX11_keep 2 = .ok (.invokevirtual 46, 3) := by decide +kernel
theorem dX11_keep_5 : decode cX11_keep 5 = .ok (.astore 4, 2) := by decide +kernel
theorem dX11_keep_7 : decode cX11_keep 7 = .ok (.aload 4, 2) := by decide +kernel
theorem dX11_keep_9 : decode cX11_keep 9 = .ok (.ifnull 12, 3) := by decide +kernel
theorem dX11_keep_12 : decode cX11_keep 12 = .ok (.iload_n 2, 1) := by decide +kernel
theorem dX11_keep_13 : decode cX11_keep 13 = .ok (.ifCond .lt 8, 3) := by decide +kernel
theorem dX11_keep_16 : decode cX11_keep 16 = .ok (.iload_n 2, 1) := by decide +kernel
theorem dX11_keep_17 : decode cX11_keep 17 = .ok (.iconst 1, 1) := by decide +kernel
theorem dX11_keep_18 : decode cX11_keep 18 = .ok (.if_icmp .le 5, 3) := by decide +kernel
theorem dX11_keep_21 : decode cX11_keep 21 = .ok (.iconst (-1), 1) := by decide +kernel
theorem dX11_keep_22 : decode cX11_keep 22 = .ok (.ireturn, 1) := by decide +kernel
theorem dX11_keep_23 : decode cX11_keep 23 = .ok (.iload_n 2, 1) := by decide +kernel
theorem dX11_keep_24 : decode cX11_keep 24 = .ok (.iconst 1, 1) := by decide +kernel
theorem dX11_keep_25 : decode cX11_keep 25 = .ok (.if_icmp .ne 14, 3) := by decide +kernel
theorem dX11_keep_28 : decode cX11_keep 28 = .ok (.aload_n 0, 1) := by decide +kernel
theorem dX11_keep_29 : decode cX11_keep 29 = .ok (.getfield 10, 3) := by decide +kernel
theorem dX11_keep_32 : decode cX11_keep 32 = .ok (.iload_n 3, 1) := by decide +kernel
theorem dX11_keep_33 : decode cX11_keep 33 = .ok (.invokevirtual 62, 3) := by decide +kernel
theorem dX11_keep_36 : decode cX11_keep 36 = .ok (.goto 4, 3) := by decide +kernel
theorem dX11_keep_39 : decode cX11_keep 39 = .ok (.aconst_null, 1) := by decide +kernel
theorem dX11_keep_40 : decode cX11_keep 40 = .ok (.astore 5, 2) := by decide +kernel
theorem dX11_keep_42 : decode cX11_keep 42 = .ok (.iload_n 2, 1) := by decide +kernel
theorem dX11_keep_43 : decode cX11_keep 43 = .ok (.iconst 1, 1) := by decide +kernel
theorem dX11_keep_44 : decode cX11_keep 44 = .ok (.if_icmp .ne 10, 3) := by decide +kernel
theorem dX11_keep_47 : decode cX11_keep 47 = .ok (.aload 5, 2) := by decide +kernel
theorem dX11_keep_49 : decode cX11_keep 49 = .ok (.ifnonnull 5, 3) := by decide +kernel
theorem dX11_keep_52 : decode cX11_keep 52 = .ok (.iconst (-1), 1) := by decide +kernel
theorem dX11_keep_53 : decode cX11_keep 53 = .ok (.ireturn, 1) := by decide +kernel
theorem dX11_keep_54 : decode cX11_keep 54 = .ok (.aload 4, 2) := by decide +kernel
theorem dX11_keep_56 : decode cX11_keep 56 = .ok (.aload 5, 2) := by decide +kernel
theorem dX11_keep_58 : decode cX11_keep 58 = .ok (.invokevirtual 244, 3) := by decide +kernel
theorem dX11_keep_61 : decode cX11_keep 61 = .ok (.iconst 0, 1) := by decide +kernel
theorem dX11_keep_62 : decode cX11_keep 62 = .ok (.ireturn, 1) := by decide +kernel
theorem dX11_row_0 : decode cX11_row 0 = .ok (.aload_n 0, 1) := by decide +kernel
theorem dX11_row_1 : decode cX11_row 1 = .ok (.iload_n 1, 1) := by decide +kernel
theorem dX11_row_2 : decode cX11_row 2 = .ok (.invokevirtual 46, 3) := by decide +kernel
theorem dX11_row_5 : decode cX11_row 5 = .ok (.astore 4, 2) := by decide +kernel
theorem dX11_row_7 : decode cX11_row 7 = .ok (.aload 4, 2) := by decide +kernel
theorem dX11_row_9 : decode cX11_row 9 = .ok (.ifnull 18, 3) := by decide +kernel
theorem dX11_row_12 : decode cX11_row 12 = .ok (.iload_n 2, 1) := by decide +kernel
theorem dX11_row_13 : decode cX11_row 13 = .ok (.ifCond .lt 14, 3) := by decide +kernel
theorem dX11_row_16 : decode cX11_row 16 = .ok (.iload_n 2, 1) := by decide +kernel
theorem dX11_row_17 : decode cX11_row 17 = .ok (.iconst 2, 1) := by decide +kernel
theorem dX11_row_18 : decode cX11_row 18 = .ok (.if_icmp .gt 9, 3) := by decide +kernel
theorem dX11_row_21 : decode cX11_row 21 = .ok (.iload_n 3, 1) := by decide +kernel
theorem dX11_row_22 : decode cX11_row 22 = .ok (.bipush 100, 2) := by decide +kernel
theorem dX11_row_24 : decode cX11_row 24 = .ok (.if_icmp .le 5, 3) := by decide +kernel
theorem dX11_row_27 : decode cX11_row 27 = .ok (.iconst (-1), 1) := by decide +kernel
theorem dX11_row_28 : decode cX11_row 28 = .ok (.ireturn, 1) := by decide +kernel
theorem dX11_row_29 : decode cX11_row 29 = .ok (.iload_n 3, 1) := by decide +kernel
theorem dX11_row_30 : decode cX11_row 30 = .ok (.ifCond .ge 6, 3) := by decide +kernel
theorem dX11_row_33 : decode cX11_row 33 = .ok (.bipush (-14), 2) := by decide +kernel
theorem dX11_row_35 : decode cX11_row 35 = .ok (.ireturn, 1) := by decide +kernel
theorem dX11_row_36 : decode cX11_row 36 = .ok (.aload 4, 2) := by decide +kernel
theorem dX11_row_38 : decode cX11_row 38 = .ok (.iload_n 2, 1) := by decide +kernel
theorem dX11_row_39 : decode cX11_row 39 = .ok (.iload_n 3, 1) := by decide +kernel
theorem dX11_row_40 : decode cX11_row 40 = .ok (.invokevirtual 248, 3) := by decide +kernel
theorem dX11_row_43 : decode cX11_row 43 = .ok (.iconst 0, 1) := by decide +kernel
theorem dX11_row_44 : decode cX11_row 44 = .ok (.ireturn, 1) := by decide +kernel
theorem dX11_put_0 : decode cX11_put 0 = .ok (.aload_n 0, 1) := by decide +kernel
theorem dX11_put_1 : decode cX11_put 1 = .ok (.iload_n 1, 1) := by decide +kernel
theorem dX11_put_2 : decode cX11_put 2 = .ok (.invokevirtual 46, 3) := by decide +kernel
theorem dX11_put_5 : decode cX11_put 5 = .ok (.astore 4, 2) := by decide +kernel
theorem dX11_put_7 : decode cX11_put 7 = .ok (.aload 4, 2) := by decide +kernel
theorem dX11_put_9 : decode cX11_put 9 = .ok (.ifnonnull 5, 3) := by decide +kernel
theorem dX11_put_12 : decode cX11_put 12 = .ok (.iconst (-1), 1) := by decide +kernel
theorem dX11_put_13 : decode cX11_put 13 = .ok (.ireturn, 1) := by decide +kernel
theorem dX11_put_14 : decode cX11_put 14 = .ok (.aload 4, 2) := by decide +kernel
theorem dX11_put_16 : decode cX11_put 16 = .ok (.invokevirtual 188, 3) := by decide +kernel
theorem dX11_put_19 : decode cX11_put 19 = .ok (.istore 5, 2) := by decide +kernel
theorem dX11_put_21 : decode cX11_put 21 = .ok (.iload 5, 2) := by decide +kernel
theorem dX11_put_23 : decode cX11_put 23 = .ok (.ifCond .eq 6, 3) := by decide +kernel
theorem dX11_put_26 : decode cX11_put 26 = .ok (.iload 5, 2) := by decide +kernel
theorem dX11_put_28 : decode cX11_put 28 = .ok (.ireturn, 1) := by decide +kernel
theorem dX11_put_29 : decode cX11_put 29 = .ok (.aload 4, 2) := by decide +kernel
theorem dX11_put_31 : decode cX11_put 31 = .ok (.iload_n 2, 1) := by decide +kernel
theorem dX11_put_32 : decode cX11_put 32 = .ok (.iload_n 3, 1) := by decide +kernel
theorem dX11_put_33 : decode cX11_put 33 = .ok (.invokevirtual 251, 3) := by decide +kernel
theorem dX11_put_36 : decode cX11_put 36 = .ok (.ifCond .eq 7, 3) := by decide +kernel
theorem dX11_put_39 : decode cX11_put 39 = .ok (.iconst 0, 1) := by decide +kernel
theorem dX11_put_40 : decode cX11_put 40 = .ok (.goto 5, 3) := by decide +kernel
theorem dX11_put_43 : decode cX11_put 43 = .ok (.bipush (-13), 2) := by decide +kernel
theorem dX11_put_45 : decode cX11_put 45 = .ok (.ireturn, 1) := by decide +kernel
theorem dX11_element_0 : decode cX11_element 0 = .ok (.aload_n 0, 1) := by decide +kernel
theorem dX11_element_1 : decode cX11_element 1 = .ok (.iload_n 1, 1) := by decide +kernel
theorem dX11_element_2 : decode cX11_element 2 = .ok (.invokevirtual 46, 3) := by decide +kernel
theorem dX11_element_5 : decode cX11_element 5 = .ok (.astore_n 3, 1) := by decide +kernel
theorem dX11_element_6 : decode cX11_element 6 = .ok (.aload_n 3, 1) := by decide +kernel
theorem dX11_element_7 : decode cX11_element 7 = .ok (.ifnonnull 14, 3) := by decide +kernel
theorem dX11_element_10 : decode cX11_element 10 = .ok (.new 254, 3) := by decide +kernel
theorem dX11_element_13 : decode cX11_element 13 = .ok (.dup, 1) := by decide +kernel
theorem dX11_element_14 : decode cX11_element 14 = .ok (.ldc_w 256, 3) := by decide +kernel
theorem dX11_element_17 : decode cX11_element 17 = .ok (.invokespecial 258, 3) := by decide +kernel
theorem dX11_element_20 : decode cX11_element 20 = .ok (.athrow, 1) := by decide +kernel
theorem dX11_element_21 : decode cX11_element 21 = .ok (.aload_n 3, 1) := by decide +kernel
theorem dX11_element_22 : decode cX11_element 22 = .ok (.invokevirtual 188, 3) := by decide +kernel
theorem dX11_element_25 : decode cX11_element 25 = .ok (.ifCond .ne 11, 3) := by decide +kernel
theorem dX11_element_28 : decode cX11_element 28 = .ok (.aload_n 3, 1) := by decide +kernel
theorem dX11_element_29 : decode cX11_element 29 = .ok (.iload_n 2, 1) := by decide +kernel
theorem dX11_element_30 : decode cX11_element 30 = .ok (.invokevirtual 261, 3) := by decide +kernel
theorem dX11_element_33 : decode cX11_element 33 = .ok (.ifCond .ne 14, 3) := by decide +kernel
theorem dX11_element_36 : decode cX11_element 36 = .ok (.new 264, 3) := by decide +kernel
theorem dX11_element_39 : decode cX11_element 39 = .ok (.dup, 1) := by decide +kernel
theorem dX11_element_40 : decode cX11_element 40 = .ok (.ldc_w 266, 3) := by decide +kernel
theorem dX11_element_43 : decode cX11_element 43 = .ok (.invokespecial 268, 3) := by decide +kernel
theorem dX11_element_46 : decode cX11_element 46 = .ok (.athrow, 1) := by decide +kernel
theorem dX11_element_47 : decode cX11_element 47 = .ok (.aload_n 3, 1) := by decide +kernel
theorem dX11_element_48 : decode cX11_element 48 = .ok (.iload_n 2, 1) := by decide +kernel
theorem dX11_element_49 : decode cX11_element 49 = .ok (.invokevirtual 269, 3) := by decide +kernel
theorem dX11_element_52 : decode cX11_element 52 = .ok (.i2l, 1) := by decide +kernel
theorem dX11_element_53 : decode cX11_element 53 = .ok (.lreturn, 1) := by decide +kernel
theorem dX11_copy_0 : decode cX11_copy 0 = .ok (.aload_n 0, 1) := by decide +kernel
theorem dX11_copy_1 : decode cX11_copy 1 = .ok (.iload_n 1, 1) := by decide +kernel
theorem dX11_copy_2 : decode cX11_copy 2 = .ok (.invokevirtual 46, 3) := by decide +kernel
theorem dX11_copy_5 : decode cX11_copy 5 = .ok (.astore 6, 2) := by decide +kernel
theorem dX11_copy_7 : decode cX11_copy 7 = .ok (.aload_n 0, 1) := by decide +kernel
theorem dX11_copy_8 : decode cX11_copy 8 = .ok (.iload_n 3, 1) := by decide +kernel
theorem dX11_copy_9 : decode cX11_copy 9 = .ok (.invokevirtual 46, 3) := by decide +kernel
theorem dX11_copy_12 : decode cX11_copy 12 = .ok (.astore 7, 2) := by decide +kernel
theorem dX11_copy_14 : decode cX11_copy 14 = .ok (.aload 6, 2) := by decide +kernel
theorem dX11_copy_16 : decode cX11_copy 16 = .ok (.ifnull 8, 3) := by decide +kernel
theorem dX11_copy_19 : decode cX11_copy 19 = .ok (.aload 7, 2) := by decide +kernel
theorem dX11_copy_21 : decode cX11_copy 21 = .ok (.ifnonnull 5, 3) := by decide +kernel
theorem dX11_copy_24 : decode cX11_copy 24 = .ok (.iconst (-1), 1) := by decide +kernel
theorem dX11_copy_25 : decode cX11_copy 25 = .ok (.ireturn, 1) := by decide +kernel
theorem dX11_copy_26 : decode cX11_copy 26 = .ok (.aload 6, 2) := by decide +kernel
theorem dX11_copy_28 : decode cX11_copy 28 = .ok (.invokevirtual 271, 3) := by decide +kernel
theorem dX11_copy_31 : decode cX11_copy 31 = .ok (.ifCond .ne 11, 3) := by decide +kernel
theorem dX11_copy_34 : decode cX11_copy 34 = .ok (.aload 7, 2) := by decide +kernel
theorem dX11_copy_36 : decode cX11_copy 36 = .ok (.invokevirtual 271, 3) := by decide +kernel
theorem dX11_copy_39 : decode cX11_copy 39 = .ok (.ifCond .eq 6, 3) := by decide +kernel
theorem dX11_copy_42 : decode cX11_copy 42 = .ok (.bipush (-11), 2) := by decide +kernel
theorem dX11_copy_44 : decode cX11_copy 44 = .ok (.ireturn, 1) := by decide +kernel
theorem dX11_copy_45 : decode cX11_copy 45 = .ok (.aload 6, 2) := by decide +kernel
theorem dX11_copy_47 : decode cX11_copy 47 = .ok (.invokevirtual 188, 3) := by decide +kernel
theorem dX11_copy_50 : decode cX11_copy 50 = .ok (.ifCond .ne 24, 3) := by decide +kernel
theorem dX11_copy_53 : decode cX11_copy 53 = .ok (.aload 7, 2) := by decide +kernel
theorem dX11_copy_55 : decode cX11_copy 55 = .ok (.invokevirtual 188, 3) := by decide +kernel
theorem dX11_copy_58 : decode cX11_copy 58 = .ok (.ifCond .ne 16, 3) := by decide +kernel
theorem dX11_copy_61 : decode cX11_copy 61 = .ok (.aload 6, 2) := by decide +kernel
theorem dX11_copy_63 : decode cX11_copy 63 = .ok (.getfield 275, 3) := by decide +kernel
theorem dX11_copy_66 : decode cX11_copy 66 = .ok (.aload 7, 2) := by decide +kernel
theorem dX11_copy_68 : decode cX11_copy 68 = .ok (.getfield 275, 3) := by decide +kernel
theorem dX11_copy_71 : decode cX11_copy 71 = .ok (.if_icmp .eq 6, 3) := by decide +kernel
theorem dX11_copy_74 : decode cX11_copy 74 = .ok (.bipush (-12), 2) := by decide +kernel
theorem dX11_copy_76 : decode cX11_copy 76 = .ok (.ireturn, 1) := by decide +kernel
theorem dX11_copy_77 : decode cX11_copy 77 = .ok (.aload 6, 2) := by decide +kernel
theorem dX11_copy_79 : decode cX11_copy 79 = .ok (.iload_n 2, 1) := by decide +kernel
theorem dX11_copy_80 : decode cX11_copy 80 = .ok (.iload 5, 2) := by decide +kernel
theorem dX11_copy_82 : decode cX11_copy 82 = .ok (.invokevirtual 278, 3) := by decide +kernel
theorem dX11_copy_85 : decode cX11_copy 85 = .ok (.ifCond .eq 15, 3) := by decide +kernel
theorem dX11_copy_88 : decode cX11_copy 88 = .ok (.aload 7, 2) := by decide +kernel
theorem dX11_copy_90 : decode cX11_copy 90 = .ok (.iload 4, 2) := by decide +kernel
theorem dX11_copy_92 : decode cX11_copy 92 = .ok (.iload 5, 2) := by decide +kernel
theorem dX11_copy_94 : decode cX11_copy 94 = .ok (.invokevirtual 278, 3) := by decide +kernel
theorem dX11_copy_97 : decode cX11_copy 97 = .ok (.ifCond .ne 6, 3) := by decide +kernel
theorem dX11_copy_100 : decode cX11_copy 100 = .ok (.bipush (-13), 2) := by decide +kernel
theorem dX11_copy_102 : decode cX11_copy 102 = .ok (.ireturn, 1) := by decide +kernel
theorem dX11_copy_103 : decode cX11_copy 103 = .ok (.aload 6, 2) := by decide +kernel
theorem dX11_copy_105 : decode cX11_copy 105 = .ok (.getfield 281, 3) := by decide +kernel
theorem dX11_copy_108 : decode cX11_copy 108 = .ok (.iload_n 2, 1) := by decide +kernel
theorem dX11_copy_109 : decode cX11_copy 109 = .ok (.aload 7, 2) := by decide +kernel
theorem dX11_copy_111 : decode cX11_copy 111 = .ok (.getfield 281, 3) := by decide +kernel
theorem dX11_copy_114 : decode cX11_copy 114 = .ok (.iload 4, 2) := by decide +kernel
theorem dX11_copy_116 : decode cX11_copy 116 = .ok (.iload 5, 2) := by decide +kernel
theorem dX11_copy_118 : decode cX11_copy 118 = .ok (.invokestatic 284, 3) := by decide +kernel
theorem dX11_copy_121 : decode cX11_copy 121 = .ok (.iload 5, 2) := by decide +kernel
theorem dX11_copy_123 : decode cX11_copy 123 = .ok (.ireturn, 1) := by decide +kernel
theorem dX11_care_0 : decode cX11_care 0 = .ok (.aload_n 0, 1) := by decide +kernel
theorem dX11_care_1 : decode cX11_care 1 = .ok (.iload_n 1, 1) := by decide +kernel
theorem dX11_care_2 : decode cX11_care 2 = .ok (.invokevirtual 46, 3) := by decide +kernel
theorem dX11_care_5 : decode cX11_care 5 = .ok (.astore_n 2, 1) := by decide +kernel
theorem dX11_care_6 : decode cX11_care 6 = .ok (.aload_n 2, 1) := by decide +kernel
theorem dX11_care_7 : decode cX11_care 7 = .ok (.ifnonnull 5, 3) := by decide +kernel
theorem dX11_care_10 : decode cX11_care 10 = .ok (.iconst (-1), 1) := by decide +kernel
theorem dX11_care_11 : decode cX11_care 11 = .ok (.ireturn, 1) := by decide +kernel
theorem dX11_care_12 : decode cX11_care 12 = .ok (.aload_n 2, 1) := by decide +kernel
theorem dX11_care_13 : decode cX11_care 13 = .ok (.getfield 290, 3) := by decide +kernel
theorem dX11_care_16 : decode cX11_care 16 = .ok (.astore_n 3, 1) := by decide +kernel
theorem dX11_care_17 : decode cX11_care 17 = .ok (.aload_n 3, 1) := by decide +kernel
theorem dX11_care_18 : decode cX11_care 18 = .ok (.ifnonnull 10, 3) := by decide +kernel
theorem dX11_care_21 : decode cX11_care 21 = .ok (.aload_n 2, 1) := by decide +kernel
theorem dX11_care_22 : decode cX11_care 22 = .ok (.invokevirtual 294, 3) := by decide +kernel
theorem dX11_care_25 : decode cX11_care 25 = .ok (.goto 7, 3) := by decide +kernel
theorem dX11_care_28 : decode cX11_care 28 = .ok (.aload_n 3, 1) := by decide +kernel
theorem dX11_care_29 : decode cX11_care 29 = .ok (.getfield 297, 3) := by decide +kernel
theorem dX11_care_32 : decode cX11_care 32 = .ok (.ireturn, 1) := by decide +kernel
theorem dX11_toss_0 : decode cX11_toss 0 = .ok (.aload_n 0, 1) := by decide +kernel
theorem dX11_toss_1 : decode cX11_toss 1 = .ok (.iload_n 1, 1) := by decide +kernel
theorem dX11_toss_2 : decode cX11_toss 2 = .ok (.invokevirtual 46, 3) := by decide +kernel
theorem dX11_toss_5 : decode cX11_toss 5 = .ok (.astore_n 2, 1) := by decide +kernel
theorem dX11_toss_6 : decode cX11_toss 6 = .ok (.aload_n 2, 1) := by decide +kernel
theorem dX11_toss_7 : decode cX11_toss 7 = .ok (.ifnonnull 5, 3) := by decide +kernel
theorem dX11_toss_10 : decode cX11_toss 10 = .ok (.iconst (-1), 1) := by decide +kernel
theorem dX11_toss_11 : decode cX11_toss 11 = .ok (.ireturn, 1) := by decide +kernel
theorem dX11_toss_12 : decode cX11_toss 12 = .ok (.aload_n 2, 1) := by decide +kernel
theorem dX11_toss_13 : decode cX11_toss 13 = .ok (.getfield 290, 3) := by decide +kernel
theorem dX11_toss_16 : decode cX11_toss 16 = .ok (.astore_n 3, 1) := by decide +kernel
theorem dX11_toss_17 : decode cX11_toss 17 = .ok (.aload_n 3, 1) := by decide +kernel
theorem dX11_toss_18 : decode cX11_toss 18 = .ok (.ifnonnull 8, 3) := by decide +kernel
theorem dX11_toss_21 : decode cX11_toss 21 = .ok (.aload_n 2, 1) := by decide +kernel
theorem dX11_toss_22 : decode cX11_toss 22 = .ok (.invokevirtual 294, 3) := by decide +kernel
theorem dX11_toss_25 : decode cX11_toss 25 = .ok (.ireturn, 1) := by decide +kernel
theorem dX11_toss_26 : decode cX11_toss 26 = .ok (.aload_n 3, 1) := by decide +kernel
theorem dX11_toss_27 : decode cX11_toss 27 = .ok (.invokevirtual 300, 3) := by decide +kernel
theorem dX11_toss_30 : decode cX11_toss 30 = .ok (.goto 10, 3) := by decide +kernel
theorem dX11_toss_33 : decode cX11_toss 33 = .ok (.astore 4, 2) := by decide +kernel
theorem dX11_toss_35 : decode cX11_toss 35 = .ok (.aload_n 3, 1) := by decide +kernel
theorem dX11_toss_36 : decode cX11_toss 36 = .ok (.getfield 303, 3) := by decide +kernel
theorem dX11_toss_39 : decode cX11_toss 39 = .ok (.ireturn, 1) := by decide +kernel
theorem dX11_toss_40 : decode cX11_toss 40 = .ok (.bipush (-15), 2) := by decide +kernel
theorem dX11_toss_42 : decode cX11_toss 42 = .ok (.ireturn, 1) := by decide +kernel
theorem dX11_shelfAt_0 : decode cX11_shelfAt 0 = .ok (.iload_n 1, 1) := by decide +kernel
theorem dX11_shelfAt_1 : decode cX11_shelfAt 1 = .ok (.ifCond .lt 12, 3) := by decide +kernel
theorem dX11_shelfAt_4 : decode cX11_shelfAt 4 = .ok (.iload_n 1, 1) := by decide +kernel
theorem dX11_shelfAt_5 : decode cX11_shelfAt 5 = .ok (.aload_n 0, 1) := by decide +kernel
theorem dX11_shelfAt_6 : decode cX11_shelfAt 6 = .ok (.getfield 31, 3) := by decide +kernel
theorem dX11_shelfAt_9 : decode cX11_shelfAt 9 = .ok (.arraylength, 1) := by decide +kernel
theorem dX11_shelfAt_10 : decode cX11_shelfAt 10 = .ok (.if_icmp .lt 7, 3) := by decide +kernel
theorem dX11_shelfAt_13 : decode cX11_shelfAt 13 = .ok (.aconst_null, 1) := by decide +kernel
theorem dX11_shelfAt_14 : decode cX11_shelfAt 14 = .ok (.goto 9, 3) := by decide +kernel
theorem dX11_shelfAt_17 : decode cX11_shelfAt 17 = .ok (.aload_n 0, 1) := by decide +kernel
theorem dX11_shelfAt_18 : decode cX11_shelfAt 18 = .ok (.getfield 31, 3) := by decide +kernel
theorem dX11_shelfAt_21 : decode cX11_shelfAt 21 = .ok (.iload_n 1, 1) := by decide +kernel
theorem dX11_shelfAt_22 : decode cX11_shelfAt 22 = .ok (.aaload, 1) := by decide +kernel
theorem dX11_shelfAt_23 : decode cX11_shelfAt 23 = .ok (.areturn, 1) := by decide +kernel
theorem dX11_listRefusal_0 : decode cX11_listRefusal 0 = .ok (.aload_n 0, 1) := by decide +kernel
theorem dX11_listRefusal_1 : decode cX11_listRefusal 1 = .ok (.iload_n 1, 1) := by decide +kernel
theorem dX11_listRefusal_2 : decode cX11_listRefusal 2 = .ok (.invokevirtual 46, 3) := by decide +kernel
theorem dX11_listRefusal_5 : decode cX11_listRefusal 5 = .ok (.astore_n 2, 1) := by decide +kernel
theorem dX11_listRefusal_6 : decode cX11_listRefusal 6 = .ok (.aload_n 2, 1) := by decide +kernel
theorem dX11_listRefusal_7 : decode cX11_listRefusal 7 = .ok (.ifnonnull 5, 3) := by decide +kernel
theorem dX11_listRefusal_10 : decode cX11_listRefusal 10 = .ok (.iconst (-1), 1) := by decide +kernel
theorem dX11_listRefusal_11 : decode cX11_listRefusal 11 = .ok (.ireturn, 1) := by decide +kernel
theorem dX11_listRefusal_12 : decode cX11_listRefusal 12 = .ok (.aload_n 2, 1) := by decide +kernel
theorem dX11_listRefusal_13 : decode cX11_listRefusal 13 = .ok (.invokevirtual 50, 3) := by decide +kernel
theorem dX11_listRefusal_16 : decode cX11_listRefusal 16 = .ok (.istore_n 3, 1) := by decide +kernel
theorem dX11_listRefusal_17 : decode cX11_listRefusal 17 = .ok (.iload_n 3, 1) := by decide +kernel
theorem dX11_listRefusal_18 : decode cX11_listRefusal 18 = .ok (.ifCond .eq 5, 3) := by decide +kernel
theorem dX11_listRefusal_21 : decode cX11_listRefusal 21 = .ok (.iload_n 3, 1) := by decide +kernel
theorem dX11_listRefusal_22 : decode cX11_listRefusal 22 = .ok (.ireturn, 1) := by decide +kernel
theorem dX11_listRefusal_23 : decode cX11_listRefusal 23 = .ok (.aload_n 2, 1) := by decide +kernel
theorem dX11_listRefusal_24 : decode cX11_listRefusal 24 = .ok (.getfield 182, 3) := by decide +kernel
theorem dX11_listRefusal_27 : decode cX11_listRefusal 27 = .ok (.bipush 8, 2) := by decide +kernel
theorem dX11_listRefusal_29 : decode cX11_listRefusal 29 = .ok (.if_icmp .le 6, 3) := by decide +kernel
theorem dX11_listRefusal_32 : decode cX11_listRefusal 32 = .ok (.bipush (-13), 2) := by decide +kernel
theorem dX11_listRefusal_34 : decode cX11_listRefusal 34 = .ok (.ireturn, 1) := by decide +kernel
theorem dX11_listRefusal_35 : decode cX11_listRefusal 35 = .ok (.iconst 0, 1) := by decide +kernel
theorem dX11_listRefusal_36 : decode cX11_listRefusal 36 = .ok (.istore 4, 2) := by decide +kernel
theorem dX11_listRefusal_38 : decode cX11_listRefusal 38 = .ok (.iload 4, 2) := by decide +kernel
theorem dX11_listRefusal_40 : decode cX11_listRefusal 40 = .ok (.aload_n 2, 1) := by decide +kernel
theorem dX11_listRefusal_41 : decode cX11_listRefusal 41 = .ok (.getfield 182, 3) := by decide +kernel
theorem dX11_listRefusal_44 : decode cX11_listRefusal 44 = .ok (.if_icmp .ge 28, 3) := by decide +kernel
theorem dX11_listRefusal_47 : decode cX11_listRefusal 47 = .ok (.aload_n 0, 1) := by decide +kernel
theorem dX11_listRefusal_48 : decode cX11_listRefusal 48 = .ok (.getfield 10, 3) := by decide +kernel
theorem dX11_listRefusal_51 : decode cX11_listRefusal 51 = .ok (.aload_n 2, 1) := by decide +kernel
theorem dX11_listRefusal_52 : decode cX11_listRefusal 52 = .ok (.iload 4, 2) := by decide +kernel
theorem dX11_listRefusal_54 : decode cX11_listRefusal 54 = .ok (.invokevirtual 269, 3) := by decide +kernel
theorem dX11_listRefusal_57 : decode cX11_listRefusal 57 = .ok (.invokevirtual 62, 3) := by decide +kernel
theorem dX11_listRefusal_60 : decode cX11_listRefusal 60 = .ok (.ifnonnull 6, 3) := by decide +kernel
theorem dX11_listRefusal_63 : decode cX11_listRefusal 63 = .ok (.bipush (-13), 2) := by decide +kernel
theorem dX11_listRefusal_65 : decode cX11_listRefusal 65 = .ok (.ireturn, 1) := by decide +kernel
theorem dX11_listRefusal_66 : decode cX11_listRefusal 66 = .ok (.iinc 4 1, 3) := by decide +kernel
theorem dX11_listRefusal_69 : decode cX11_listRefusal 69 = .ok (.goto (-31), 3) := by decide +kernel
theorem dX11_listRefusal_72 : decode cX11_listRefusal 72 = .ok (.iconst 0, 1) := by decide +kernel
theorem dX11_listRefusal_73 : decode cX11_listRefusal 73 = .ok (.ireturn, 1) := by decide +kernel
theorem dX11_takeList_0 : decode cX11_takeList 0 = .ok (.aload_n 0, 1) := by decide +kernel
theorem dX11_takeList_1 : decode cX11_takeList 1 = .ok (.iload_n 1, 1) := by decide +kernel
theorem dX11_takeList_2 : decode cX11_takeList 2 = .ok (.invokevirtual 179, 3) := by decide +kernel
theorem dX11_takeList_5 : decode cX11_takeList 5 = .ok (.istore_n 2, 1) := by decide +kernel
theorem dX11_takeList_6 : decode cX11_takeList 6 = .ok (.aload_n 0, 1) := by decide +kernel
theorem dX11_takeList_7 : decode cX11_takeList 7 = .ok (.iload_n 1, 1) := by decide +kernel
theorem dX11_takeList_8 : decode cX11_takeList 8 = .ok (.invokevirtual 46, 3) := by decide +kernel
theorem dX11_takeList_11 : decode cX11_takeList 11 = .ok (.astore_n 3, 1) := by decide +kernel
theorem dX11_takeList_12 : decode cX11_takeList 12 = .ok (.iload_n 2, 1) := by decide +kernel
theorem dX11_takeList_13 : decode cX11_takeList 13 = .ok (.ifCond .ne 7, 3) := by decide +kernel
theorem dX11_takeList_16 : decode cX11_takeList 16 = .ok (.aload_n 3, 1) := by decide +kernel
theorem dX11_takeList_17 : decode cX11_takeList 17 = .ok (.ifnonnull 5, 3) := by decide +kernel
theorem dX11_takeList_20 : decode cX11_takeList 20 = .ok (.iload_n 2, 1) := by decide +kernel
theorem dX11_takeList_21 : decode cX11_takeList 21 = .ok (.ireturn, 1) := by decide +kernel
theorem dX11_takeList_22 : decode cX11_takeList 22 = .ok (.aload_n 0, 1) := by decide +kernel
theorem dX11_takeList_23 : decode cX11_takeList 23 = .ok (.getfield 25, 3) := by decide +kernel
theorem dX11_takeList_26 : decode cX11_takeList 26 = .ok (.aload_n 0, 1) := by decide +kernel
theorem dX11_takeList_27 : decode cX11_takeList 27 = .ok (.getfield 10, 3) := by decide +kernel
theorem dX11_takeList_30 : decode cX11_takeList 30 = .ok (.invokevirtual 306, 3) := by decide +kernel
theorem dX11_takeList_33 : decode cX11_takeList 33 = .ok (.iconst 0, 1) := by decide +kernel
theorem dX11_takeList_34 : decode cX11_takeList 34 = .ok (.istore 4, 2) := by decide +kernel
theorem dX11_takeList_36 : decode cX11_takeList 36 = .ok (.iload 4, 2) := by decide +kernel
theorem dX11_takeList_38 : decode cX11_takeList 38 = .ok (.aload_n 3, 1) := by decide +kernel
theorem dX11_takeList_39 : decode cX11_takeList 39 = .ok (.getfield 182, 3) := by decide +kernel
theorem dX11_takeList_42 : decode cX11_takeList 42 = .ok (.if_icmp .ge 29, 3) := by decide +kernel
theorem dX11_takeList_45 : decode cX11_takeList 45 = .ok (.aload_n 0, 1) := by decide +kernel
theorem dX11_takeList_46 : decode cX11_takeList 46 = .ok (.getfield 25, 3) := by decide +kernel
theorem dX11_takeList_49 : decode cX11_takeList 49 = .ok (.aload_n 0, 1) := by decide +kernel
theorem dX11_takeList_50 : decode cX11_takeList 50 = .ok (.getfield 10, 3) := by decide +kernel
theorem dX11_takeList_53 : decode cX11_takeList 53 = .ok (.aload_n 3, 1) := by decide +kernel
theorem dX11_takeList_54 : decode cX11_takeList 54 = .ok (.iload 4, 2) := by decide +kernel
theorem dX11_takeList_56 : decode cX11_takeList 56 = .ok (.invokevirtual 269, 3) := by decide +kernel
theorem dX11_takeList_59 : decode cX11_takeList 59 = .ok (.invokevirtual 62, 3) := by decide +kernel
theorem dX11_takeList_62 : decode cX11_takeList 62 = .ok (.invokevirtual 309, 3) := by decide +kernel
theorem dX11_takeList_65 : decode cX11_takeList 65 = .ok (.iinc 4 1, 3) := by decide +kernel
theorem dX11_takeList_68 : decode cX11_takeList 68 = .ok (.goto (-32), 3) := by decide +kernel
theorem dX11_takeList_71 : decode cX11_takeList 71 = .ok (.iconst 0, 1) := by decide +kernel
theorem dX11_takeList_72 : decode cX11_takeList 72 = .ok (.ireturn, 1) := by decide +kernel
theorem dX11_playList_0 : decode cX11_playList 0 = .ok (.iload_n 2, 1) := by decide +kernel
theorem dX11_playList_1 : decode cX11_playList 1 = .ok (.invokestatic 219, 3) := by decide +kernel
theorem dX11_playList_4 : decode cX11_playList 4 = .ok (.ifCond .ne 5, 3) := by decide +kernel
theorem dX11_playList_7 : decode cX11_playList 7 = .ok (.iconst (-1), 1) := by decide +kernel
theorem dX11_playList_8 : decode cX11_playList 8 = .ok (.ireturn, 1) := by decide +kernel
theorem dX11_playList_9 : decode cX11_playList 9 = .ok (.aload_n 0, 1) := by decide +kernel
theorem dX11_playList_10 : decode cX11_playList 10 = .ok (.iload_n 1, 1) := by decide +kernel
theorem dX11_playList_11 : decode cX11_playList 11 = .ok (.invokevirtual 142, 3) := by decide +kernel
theorem dX11_playList_14 : decode cX11_playList 14 = .ok (.istore_n 3, 1) := by decide +kernel
theorem dX11_playList_15 : decode cX11_playList 15 = .ok (.iload_n 3, 1) := by decide +kernel
theorem dX11_playList_16 : decode cX11_playList 16 = .ok (.ifCond .ne 11, 3) := by decide +kernel
theorem dX11_playList_19 : decode cX11_playList 19 = .ok (.aload_n 0, 1) := by decide +kernel
theorem dX11_playList_20 : decode cX11_playList 20 = .ok (.getfield 25, 3) := by decide +kernel
theorem dX11_playList_23 : decode cX11_playList 23 = .ok (.iload_n 2, 1) := by decide +kernel
theorem dX11_playList_24 : decode cX11_playList 24 = .ok (.invokevirtual 176, 3) := by decide +kernel
theorem dX11_playList_27 : decode cX11_playList 27 = .ok (.iload_n 3, 1) := by decide +kernel
theorem dX11_playList_28 : decode cX11_playList 28 = .ok (.ireturn, 1) := by decide +kernel
theorem dX11_endYears_0 : decode cX11_endYears 0 = .ok (.aload_n 0, 1) := by decide +kernel
theorem dX11_endYears_1 : decode cX11_endYears 1 = .ok (.getfield 10, 3) := by decide +kernel
theorem dX11_endYears_4 : decode cX11_endYears 4 = .ok (.aload_n 0, 1) := by decide +kernel
theorem dX11_endYears_5 : decode cX11_endYears 5 = .ok (.getfield 25, 3) := by decide +kernel
theorem dX11_endYears_8 : decode cX11_endYears 8 = .ok (.getfield 155, 3) := by decide +kernel
theorem dX11_endYears_11 : decode cX11_endYears 11 = .ok (.putfield 94, 3) := by decide +kernel
theorem dX11_endYears_14 : decode cX11_endYears 14 = .ok (.aload_n 0, 1) := by decide +kernel
theorem dX11_endYears_15 : decode cX11_endYears 15 = .ok (.getfield 10, 3) := by decide +kernel
theorem dX11_endYears_18 : decode cX11_endYears 18 = .ok (.aload_n 0, 1) := by decide +kernel
theorem dX11_endYears_19 : decode cX11_endYears 19 = .ok (.getfield 25, 3) := by decide +kernel
theorem dX11_endYears_22 : decode cX11_endYears 22 = .ok (.getfield 162, 3) := by decide +kernel
theorem dX11_endYears_25 : decode cX11_endYears 25 = .ok (.putfield 97, 3) := by decide +kernel
theorem dX11_endYears_28 : decode cX11_endYears 28 = .ok (.aload_n 0, 1) := by decide +kernel
theorem dX11_endYears_29 : decode cX11_endYears 29 = .ok (.getfield 10, 3) := by decide +kernel
theorem dX11_endYears_32 : decode cX11_endYears 32 = .ok (.dup, 1) := by decide +kernel
theorem dX11_endYears_33 : decode cX11_endYears 33 = .ok (.getfield 100, 3) := by decide +kernel
theorem dX11_endYears_36 : decode cX11_endYears 36 = .ok (.iload_n 1, 1) := by decide +kernel
theorem dX11_endYears_37 : decode cX11_endYears 37 = .ok (.iadd, 1) := by decide +kernel
theorem dX11_endYears_38 : decode cX11_endYears 38 = .ok (.putfield 100, 3) := by decide +kernel
theorem dX11_endYears_41 : decode cX11_endYears 41 = .ok (.return_, 1) := by decide +kernel
theorem dX11_areNails_0 : decode cX11_areNails 0 = .ok (.iload_n 0, 1) := by decide +kernel
theorem dX11_areNails_1 : decode cX11_areNails 1 = .ok (.ifCond .lt 14, 3) := by decide +kernel
theorem dX11_areNails_4 : decode cX11_areNails 4 = .ok (.iload_n 0, 1) := by decide +kernel
theorem dX11_areNails_5 : decode cX11_areNails 5 = .ok (.sipush 255, 3) := by decide +kernel
theorem dX11_areNails_8 : decode cX11_areNails 8 = .ok (.if_icmp .gt 7, 3) := by decide +kernel
theorem dX11_areNails_11 : decode cX11_areNails 11 = .ok (.iconst 1, 1) := by decide +kernel
theorem dX11_areNails_12 : decode cX11_areNails 12 = .ok (.goto 4, 3) := by decide +kernel
theorem dX11_areNails_15 : decode cX11_areNails 15 = .ok (.iconst 0, 1) := by decide +kernel
theorem dX11_areNails_16 : decode cX11_areNails 16 = .ok (.ireturn, 1) := by decide +kernel
theorem dX11_areMarks_0 : decode cX11_areMarks 0 = .ok (.iload_n 0, 1) := by decide +kernel
theorem dX11_areMarks_1 : decode cX11_areMarks 1 = .ok (.ifCond .lt 14, 3) := by decide +kernel
theorem dX11_areMarks_4 : decode cX11_areMarks 4 = .ok (.iload_n 0, 1) := by decide +kernel
theorem dX11_areMarks_5 : decode cX11_areMarks 5 = .ok (.sipush 1023, 3) := by decide +kernel
theorem dX11_areMarks_8 : decode cX11_areMarks 8 = .ok (.if_icmp .gt 7, 3) := by decide +kernel
theorem dX11_areMarks_11 : decode cX11_areMarks 11 = .ok (.iconst 1, 1) := by decide +kernel
theorem dX11_areMarks_12 : decode cX11_areMarks 12 = .ok (.goto 4, 3) := by decide +kernel
theorem dX11_areMarks_15 : decode cX11_areMarks 15 = .ok (.iconst 0, 1) := by decide +kernel
theorem dX11_areMarks_16 : decode cX11_areMarks 16 = .ok (.ireturn, 1) := by decide +kernel
theorem dX11_counted_0 : decode cX11_counted 0 = .ok (.aload_n 1, 1) := by decide +kernel
theorem dX11_counted_1 : decode cX11_counted 1 = .ok (.ifnonnull 5, 3) := by decide +kernel
theorem dX11_counted_4 : decode cX11_counted 4 = .ok (.iconst 0, 1) := by decide +kernel
theorem dX11_counted_5 : decode cX11_counted 5 = .ok (.ireturn, 1) := by decide +kernel
theorem dX11_counted_6 : decode cX11_counted 6 = .ok (.iload_n 2, 1) := by decide +kernel
theorem dX11_counted_7 : decode cX11_counted 7 = .ok (.tableswitch 80 2 4 #[25, 52, 65], 25) := by decide +kernel
theorem dX11_counted_32 : decode cX11_counted 32 = .ok (.aload_n 1, 1) := by decide +kernel
theorem dX11_counted_33 : decode cX11_counted 33 = .ok (.aload_n 0, 1) := by decide +kernel
theorem dX11_counted_34 : decode cX11_counted 34 = .ok (.getfield 10, 3) := by decide +kernel
theorem dX11_counted_37 : decode cX11_counted 37 = .ok (.getfield 94, 3) := by decide +kernel
theorem dX11_counted_40 : decode cX11_counted 40 = .ok (.aload_n 0, 1) := by decide +kernel
theorem dX11_counted_41 : decode cX11_counted 41 = .ok (.getfield 10, 3) := by decide +kernel
theorem dX11_counted_44 : decode cX11_counted 44 = .ok (.getfield 97, 3) := by decide +kernel
theorem dX11_counted_47 : decode cX11_counted 47 = .ok (.invokevirtual 122, 3) := by decide +kernel
theorem dX11_counted_50 : decode cX11_counted 50 = .ok (.ifCond .eq 7, 3) := by decide +kernel
theorem dX11_counted_53 : decode cX11_counted 53 = .ok (.iconst 1, 1) := by decide +kernel
theorem dX11_counted_54 : decode cX11_counted 54 = .ok (.goto 4, 3) := by decide +kernel
theorem dX11_counted_57 : decode cX11_counted 57 = .ok (.iconst 0, 1) := by decide +kernel
theorem dX11_counted_58 : decode cX11_counted 58 = .ok (.ireturn, 1) := by decide +kernel
theorem dX11_counted_59 : decode cX11_counted 59 = .ok (.aload_n 1, 1) := by decide +kernel
theorem dX11_counted_60 : decode cX11_counted 60 = .ok (.getfield 90, 3) := by decide +kernel
theorem dX11_counted_63 : decode cX11_counted 63 = .ok (.ifCond .eq 7, 3) := by decide +kernel
theorem dX11_counted_66 : decode cX11_counted 66 = .ok (.iconst 1, 1) := by decide +kernel
theorem dX11_counted_67 : decode cX11_counted 67 = .ok (.goto 4, 3) := by decide +kernel
theorem dX11_counted_70 : decode cX11_counted 70 = .ok (.iconst 0, 1) := by decide +kernel
theorem dX11_counted_71 : decode cX11_counted 71 = .ok (.ireturn, 1) := by decide +kernel
theorem dX11_counted_72 : decode cX11_counted 72 = .ok (.aload_n 1, 1) := by decide +kernel
theorem dX11_counted_73 : decode cX11_counted 73 = .ok (.getfield 66, 3) := by decide +kernel
theorem dX11_counted_76 : decode cX11_counted 76 = .ok (.bipush 6, 2) := by decide +kernel
theorem dX11_counted_78 : decode cX11_counted 78 = .ok (.if_icmp .ne 7, 3) := by decide +kernel
theorem dX11_counted_81 : decode cX11_counted 81 = .ok (.iconst 1, 1) := by decide +kernel
theorem dX11_counted_82 : decode cX11_counted 82 = .ok (.goto 4, 3) := by decide +kernel
theorem dX11_counted_85 : decode cX11_counted 85 = .ok (.iconst 0, 1) := by decide +kernel
theorem dX11_counted_86 : decode cX11_counted 86 = .ok (.ireturn, 1) := by decide +kernel
theorem dX11_counted_87 : decode cX11_counted 87 = .ok (.aload_n 1, 1) := by decide +kernel
theorem dX11_counted_88 : decode cX11_counted 88 = .ok (.getfield 78, 3) := by decide +kernel
theorem dX11_counted_91 : decode cX11_counted 91 = .ok (.ireturn, 1) := by decide +kernel
theorem dX11_freest_0 : decode cX11_freest 0 = .ok (.bipush (-4), 2) := by decide +kernel
theorem dX11_freest_2 : decode cX11_freest 2 = .ok (.istore 4, 2) := by decide +kernel
theorem dX11_freest_4 : decode cX11_freest 4 = .ok (.bipush (-4), 2) := by decide +kernel
theorem dX11_freest_6 : decode cX11_freest 6 = .ok (.istore 5, 2) := by decide +kernel
theorem dX11_freest_8 : decode cX11_freest 8 = .ok (.iconst 0, 1) := by decide +kernel
theorem dX11_freest_9 : decode cX11_freest 9 = .ok (.istore 6, 2) := by decide +kernel
theorem dX11_freest_11 : decode cX11_freest 11 = .ok (.iload 6, 2) := by decide +kernel
theorem dX11_freest_13 : decode cX11_freest 13 = .ok (.aload_n 0, 1) := by decide +kernel
theorem dX11_freest_14 : decode cX11_freest 14 = .ok (.getfield 35, 3) := by decide +kernel
theorem dX11_freest_17 : decode cX11_freest 17 = .ok (.arraylength, 1) := by decide +kernel
theorem dX11_freest_18 : decode cX11_freest 18 = .ok (.if_icmp .ge 18, 3) := by decide +kernel
theorem dX11_freest_21 : decode cX11_freest 21 = .ok (.aload_n 0, 1) := by decide +kernel
theorem dX11_freest_22 : decode cX11_freest 22 = .ok (.getfield 35, 3) := by decide +kernel
theorem dX11_freest_25 : decode cX11_freest 25 = .ok (.iload 6, 2) := by decide +kernel
theorem dX11_freest_27 : decode cX11_freest 27 = .ok (.iload 6, 2) := by decide +kernel
theorem dX11_freest_29 : decode cX11_freest 29 = .ok (.iastore, 1) := by decide +kernel
theorem dX11_freest_30 : decode cX11_freest 30 = .ok (.iinc 6 1, 3) := by decide +kernel
theorem dX11_freest_33 : decode cX11_freest 33 = .ok (.goto (-22), 3) := by decide +kernel
theorem dX11_freest_36 : decode cX11_freest 36 = .ok (.iconst 1, 1) := by decide +kernel
theorem dX11_freest_37 : decode cX11_freest 37 = .ok (.istore 6, 2) := by decide +kernel
theorem dX11_freest_39 : decode cX11_freest 39 = .ok (.iconst 0, 1) := by decide +kernel
theorem dX11_freest_40 : decode cX11_freest 40 = .ok (.istore 7, 2) := by decide +kernel
theorem dX11_freest_42 : decode cX11_freest 42 = .ok (.iload 7, 2) := by decide +kernel
theorem dX11_freest_44 : decode cX11_freest 44 = .ok (.bipush 120, 2) := by decide +kernel
theorem dX11_freest_46 : decode cX11_freest 46 = .ok (.if_icmp .ge 76, 3) := by decide +kernel
theorem dX11_freest_49 : decode cX11_freest 49 = .ok (.iload 6, 2) := by decide +kernel
theorem dX11_freest_51 : decode cX11_freest 51 = .ok (.ifCond .eq 71, 3) := by decide +kernel
theorem dX11_freest_54 : decode cX11_freest 54 = .ok (.aload_n 0, 1) := by decide +kernel
theorem dX11_freest_55 : decode cX11_freest 55 = .ok (.aload_n 1, 1) := by decide +kernel
theorem dX11_freest_56 : decode cX11_freest 56 = .ok (.invokevirtual 312, 3) := by decide +kernel
theorem dX11_freest_59 : decode cX11_freest 59 = .ok (.aload_n 0, 1) := by decide +kernel
theorem dX11_freest_60 : decode cX11_freest 60 = .ok (.getfield 25, 3) := by decide +kernel
theorem dX11_freest_63 : decode cX11_freest 63 = .ok (.iload_n 2, 1) := by decide +kernel
theorem dX11_freest_64 : decode cX11_freest 64 = .ok (.invokevirtual 173, 3) := by decide +kernel
theorem dX11_freest_67 : decode cX11_freest 67 = .ok (.istore 8, 2) := by decide +kernel
theorem dX11_freest_69 : decode cX11_freest 69 = .ok (.iload 8, 2) := by decide +kernel
theorem dX11_freest_71 : decode cX11_freest 71 = .ok (.ifCond .lt 35, 3) := by decide +kernel
theorem dX11_freest_74 : decode cX11_freest 74 = .ok (.iload 4, 2) := by decide +kernel
theorem dX11_freest_76 : decode cX11_freest 76 = .ok (.ifCond .lt 13, 3) := by decide +kernel
theorem dX11_freest_79 : decode cX11_freest 79 = .ok (.iload 8, 2) := by decide +kernel
theorem dX11_freest_81 : decode cX11_freest 81 = .ok (.invokestatic 137, 3) := by decide +kernel
theorem dX11_freest_84 : decode cX11_freest 84 = .ok (.iload 4, 2) := by decide +kernel
theorem dX11_freest_86 : decode cX11_freest 86 = .ok (.if_icmp .ge 20, 3) := by decide +kernel
theorem dX11_freest_89 : decode cX11_freest 89 = .ok (.iload 8, 2) := by decide +kernel
theorem dX11_freest_91 : decode cX11_freest 91 = .ok (.invokestatic 137, 3) := by decide +kernel
theorem dX11_freest_94 : decode cX11_freest 94 = .ok (.istore 4, 2) := by decide +kernel
theorem dX11_freest_96 : decode cX11_freest 96 = .ok (.aload_n 0, 1) := by decide +kernel
theorem dX11_freest_97 : decode cX11_freest 97 = .ok (.aload_n 1, 1) := by decide +kernel
theorem dX11_freest_98 : decode cX11_freest 98 = .ok (.getfield 182, 3) := by decide +kernel
theorem dX11_freest_101 : decode cX11_freest 101 = .ok (.invokevirtual 316, 3) := by decide +kernel
theorem dX11_freest_104 : decode cX11_freest 104 = .ok (.istore 5, 2) := by decide +kernel
theorem dX11_freest_106 : decode cX11_freest 106 = .ok (.aload_n 0, 1) := by decide +kernel
theorem dX11_freest_107 : decode cX11_freest 107 = .ok (.aload_n 1, 1) := by decide +kernel
theorem dX11_freest_108 : decode cX11_freest 108 = .ok (.getfield 182, 3) := by decide +kernel
theorem dX11_freest_111 : decode cX11_freest 111 = .ok (.invokevirtual 319, 3) := by decide +kernel
theorem dX11_freest_114 : decode cX11_freest 114 = .ok (.istore 6, 2) := by decide +kernel
theorem dX11_freest_116 : decode cX11_freest 116 = .ok (.iinc 7 1, 3) := by decide +kernel
theorem dX11_freest_119 : decode cX11_freest 119 = .ok (.goto (-77), 3) := by decide +kernel
theorem dX11_freest_122 : decode cX11_freest 122 = .ok (.iload_n 3, 1) := by decide +kernel
theorem dX11_freest_123 : decode cX11_freest 123 = .ok (.ifCond .ne 8, 3) := by decide +kernel
theorem dX11_freest_126 : decode cX11_freest 126 = .ok (.iload 5, 2) := by decide +kernel
theorem dX11_freest_128 : decode cX11_freest 128 = .ok (.goto 5, 3) := by decide +kernel
theorem dX11_freest_131 : decode cX11_freest 131 = .ok (.iload 4, 2) := by decide +kernel
theorem dX11_freest_133 : decode cX11_freest 133 = .ok (.ireturn, 1) := by decide +kernel
theorem dX11_takeOrder_0 : decode cX11_takeOrder 0 = .ok (.aload_n 0, 1) := by decide +kernel
theorem dX11_takeOrder_1 : decode cX11_takeOrder 1 = .ok (.getfield 25, 3) := by decide +kernel
theorem dX11_takeOrder_4 : decode cX11_takeOrder 4 = .ok (.aload_n 0, 1) := by decide +kernel
theorem dX11_takeOrder_5 : decode cX11_takeOrder 5 = .ok (.getfield 10, 3) := by decide +kernel
theorem dX11_takeOrder_8 : decode cX11_takeOrder 8 = .ok (.invokevirtual 306, 3) := by decide +kernel
theorem dX11_takeOrder_11 : decode cX11_takeOrder 11 = .ok (.iconst 0, 1) := by decide +kernel
theorem dX11_takeOrder_12 : decode cX11_takeOrder 12 = .ok (.istore_n 2, 1) := by decide +kernel
theorem dX11_takeOrder_13 : decode cX11_takeOrder 13 = .ok (.iload_n 2, 1) := by decide +kernel
theorem dX11_takeOrder_14 : decode cX11_takeOrder 14 = .ok (.aload_n 1, 1) := by decide +kernel
theorem dX11_takeOrder_15 : decode cX11_takeOrder 15 = .ok (.getfield 182, 3) := by decide +kernel
theorem dX11_takeOrder_18 : decode cX11_takeOrder 18 = .ok (.if_icmp .ge 35, 3) := by decide +kernel
theorem dX11_takeOrder_21 : decode cX11_takeOrder 21 = .ok (.aload_n 0, 1) := by decide +kernel
theorem dX11_takeOrder_22 : decode cX11_takeOrder 22 = .ok (.getfield 25, 3) := by decide +kernel
theorem dX11_takeOrder_25 : decode cX11_takeOrder 25 = .ok (.aload_n 0, 1) := by decide +kernel
theorem dX11_takeOrder_26 : decode cX11_takeOrder 26 = .ok (.getfield 10, 3) := by decide +kernel
theorem dX11_takeOrder_29 : decode cX11_takeOrder 29 = .ok (.aload_n 1, 1) := by decide +kernel
theorem dX11_takeOrder_30 : decode cX11_takeOrder 30 = .ok (.aload_n 0, 1) := by decide +kernel
theorem dX11_takeOrder_31 : decode cX11_takeOrder 31 = .ok (.getfield 35, 3) := by decide +kernel
theorem dX11_takeOrder_34 : decode cX11_takeOrder 34 = .ok (.iload_n 2, 1) := by decide +kernel
theorem dX11_takeOrder_35 : decode cX11_takeOrder 35 = .ok (.invokestatic 322, 3) := by decide +kernel
theorem dX11_takeOrder_38 : decode cX11_takeOrder 38 = .ok (.invokevirtual 269, 3) := by decide +kernel
theorem dX11_takeOrder_41 : decode cX11_takeOrder 41 = .ok (.invokevirtual 62, 3) := by decide +kernel
theorem dX11_takeOrder_44 : decode cX11_takeOrder 44 = .ok (.invokevirtual 309, 3) := by decide +kernel
theorem dX11_takeOrder_47 : decode cX11_takeOrder 47 = .ok (.iinc 2 1, 3) := by decide +kernel
theorem dX11_takeOrder_50 : decode cX11_takeOrder 50 = .ok (.goto (-37), 3) := by decide +kernel
theorem dX11_takeOrder_53 : decode cX11_takeOrder 53 = .ok (.return_, 1) := by decide +kernel
theorem dX11_orderDigits_0 : decode cX11_orderDigits 0 = .ok (.iconst 0, 1) := by decide +kernel
theorem dX11_orderDigits_1 : decode cX11_orderDigits 1 = .ok (.istore_n 2, 1) := by decide +kernel
theorem dX11_orderDigits_2 : decode cX11_orderDigits 2 = .ok (.iload_n 1, 1) := by decide +kernel
theorem dX11_orderDigits_3 : decode cX11_orderDigits 3 = .ok (.iconst 1, 1) := by decide +kernel
theorem dX11_orderDigits_4 : decode cX11_orderDigits 4 = .ok (.isub, 1) := by decide +kernel
theorem dX11_orderDigits_5 : decode cX11_orderDigits 5 = .ok (.istore_n 3, 1) := by decide +kernel
theorem dX11_orderDigits_6 : decode cX11_orderDigits 6 = .ok (.iload_n 3, 1) := by decide +kernel
theorem dX11_orderDigits_7 : decode cX11_orderDigits 7 = .ok (.ifCond .lt 23, 3) := by decide +kernel
theorem dX11_orderDigits_10 : decode cX11_orderDigits 10 = .ok (.bipush 10, 2) := by decide +kernel
theorem dX11_orderDigits_12 : decode cX11_orderDigits 12 = .ok (.iload_n 2, 1) := by decide +kernel
theorem dX11_orderDigits_13 : decode cX11_orderDigits 13 = .ok (.imul, 1) := by decide +kernel
theorem dX11_orderDigits_14 : decode cX11_orderDigits 14 = .ok (.aload_n 0, 1) := by decide +kernel
theorem dX11_orderDigits_15 : decode cX11_orderDigits 15 = .ok (.getfield 35, 3) := by decide +kernel
theorem dX11_orderDigits_18 : decode cX11_orderDigits 18 = .ok (.iload_n 3, 1) := by decide +kernel
theorem dX11_orderDigits_19 : decode cX11_orderDigits 19 = .ok (.invokestatic 322, 3) := by decide +kernel
theorem dX11_orderDigits_22 : decode cX11_orderDigits 22 = .ok (.iadd, 1) := by decide +kernel
theorem dX11_orderDigits_23 : decode cX11_orderDigits 23 = .ok (.istore_n 2, 1) := by decide +kernel
theorem dX11_orderDigits_24 : decode cX11_orderDigits 24 = .ok (.iinc 3 (-1), 3) := by decide +kernel
theorem dX11_orderDigits_27 : decode cX11_orderDigits 27 = .ok (.goto (-21), 3) := by decide +kernel
theorem dX11_orderDigits_30 : decode cX11_orderDigits 30 = .ok (.iload_n 2, 1) := by decide +kernel
theorem dX11_orderDigits_31 : decode cX11_orderDigits 31 = .ok (.ireturn, 1) := by decide +kernel
theorem dX11_nextOrder_0 : decode cX11_nextOrder 0 = .ok (.iload_n 1, 1) := by decide +kernel
theorem dX11_nextOrder_1 : decode cX11_nextOrder 1 = .ok (.iconst 2, 1) := by decide +kernel
theorem dX11_nextOrder_2 : decode cX11_nextOrder 2 = .ok (.isub, 1) := by decide +kernel
theorem dX11_nextOrder_3 : decode cX11_nextOrder 3 = .ok (.istore_n 2, 1) := by decide +kernel
theorem dX11_nextOrder_4 : decode cX11_nextOrder 4 = .ok (.iload_n 2, 1) := by decide +kernel
theorem dX11_nextOrder_5 : decode cX11_nextOrder 5 = .ok (.ifCond .lt 30, 3) := by decide +kernel
theorem dX11_nextOrder_8 : decode cX11_nextOrder 8 = .ok (.aload_n 0, 1) := by decide +kernel
theorem dX11_nextOrder_9 : decode cX11_nextOrder 9 = .ok (.getfield 35, 3) := by decide +kernel
theorem dX11_nextOrder_12 : decode cX11_nextOrder 12 = .ok (.iload_n 2, 1) := by decide +kernel
theorem dX11_nextOrder_13 : decode cX11_nextOrder 13 = .ok (.invokestatic 322, 3) := by decide +kernel
theorem dX11_nextOrder_16 : decode cX11_nextOrder 16 = .ok (.aload_n 0, 1) := by decide +kernel
theorem dX11_nextOrder_17 : decode cX11_nextOrder 17 = .ok (.getfield 35, 3) := by decide +kernel
theorem dX11_nextOrder_20 : decode cX11_nextOrder 20 = .ok (.iload_n 2, 1) := by decide +kernel
theorem dX11_nextOrder_21 : decode cX11_nextOrder 21 = .ok (.iconst 1, 1) := by decide +kernel
theorem dX11_nextOrder_22 : decode cX11_nextOrder 22 = .ok (.iadd, 1) := by decide +kernel
theorem dX11_nextOrder_23 : decode cX11_nextOrder 23 = .ok (.invokestatic 322, 3) := by decide +kernel
theorem dX11_nextOrder_26 : decode cX11_nextOrder 26 = .ok (.if_icmp .le 9, 3) := by decide +kernel
theorem dX11_nextOrder_29 : decode cX11_nextOrder 29 = .ok (.iinc 2 (-1), 3) := by decide +kernel
theorem dX11_nextOrder_32 : decode cX11_nextOrder 32 = .ok (.goto (-28), 3) := by decide +kernel
theorem dX11_nextOrder_35 : decode cX11_nextOrder 35 = .ok (.iload_n 2, 1) := by decide +kernel
theorem dX11_nextOrder_36 : decode cX11_nextOrder 36 = .ok (.ifCond .ge 5, 3) := by decide +kernel
theorem dX11_nextOrder_39 : decode cX11_nextOrder 39 = .ok (.iconst 0, 1) := by decide +kernel
theorem dX11_nextOrder_40 : decode cX11_nextOrder 40 = .ok (.ireturn, 1) := by decide +kernel
theorem dX11_nextOrder_41 : decode cX11_nextOrder 41 = .ok (.iload_n 1, 1) := by decide +kernel
theorem dX11_nextOrder_42 : decode cX11_nextOrder 42 = .ok (.iconst 1, 1) := by decide +kernel
theorem dX11_nextOrder_43 : decode cX11_nextOrder 43 = .ok (.isub, 1) := by decide +kernel
theorem dX11_nextOrder_44 : decode cX11_nextOrder 44 = .ok (.istore_n 3, 1) := by decide +kernel
theorem dX11_nextOrder_45 : decode cX11_nextOrder 45 = .ok (.iload_n 3, 1) := by decide +kernel
theorem dX11_nextOrder_46 : decode cX11_nextOrder 46 = .ok (.iload_n 2, 1) := by decide +kernel
theorem dX11_nextOrder_47 : decode cX11_nextOrder 47 = .ok (.iconst 1, 1) := by decide +kernel
theorem dX11_nextOrder_48 : decode cX11_nextOrder 48 = .ok (.iadd, 1) := by decide +kernel
theorem dX11_nextOrder_49 : decode cX11_nextOrder 49 = .ok (.if_icmp .le 28, 3) := by decide +kernel
theorem dX11_nextOrder_52 : decode cX11_nextOrder 52 = .ok (.aload_n 0, 1) := by decide +kernel
theorem dX11_nextOrder_53 : decode cX11_nextOrder 53 = .ok (.getfield 35, 3) := by decide +kernel
theorem dX11_nextOrder_56 : decode cX11_nextOrder 56 = .ok (.iload_n 3, 1) := by decide +kernel
theorem dX11_nextOrder_57 : decode cX11_nextOrder 57 = .ok (.invokestatic 322, 3) := by decide +kernel
theorem dX11_nextOrder_60 : decode cX11_nextOrder 60 = .ok (.aload_n 0, 1) := by decide +kernel
theorem dX11_nextOrder_61 : decode cX11_nextOrder 61 = .ok (.getfield 35, 3) := by decide +kernel
theorem dX11_nextOrder_64 : decode cX11_nextOrder 64 = .ok (.iload_n 2, 1) := by decide +kernel
theorem dX11_nextOrder_65 : decode cX11_nextOrder 65 = .ok (.invokestatic 322, 3) := by decide +kernel
theorem dX11_nextOrder_68 : decode cX11_nextOrder 68 = .ok (.if_icmp .ge 9, 3) := by decide +kernel
theorem dX11_nextOrder_71 : decode cX11_nextOrder 71 = .ok (.iinc 3 (-1), 3) := by decide +kernel
theorem dX11_nextOrder_74 : decode cX11_nextOrder 74 = .ok (.goto (-29), 3) := by decide +kernel
theorem dX11_nextOrder_77 : decode cX11_nextOrder 77 = .ok (.aload_n 0, 1) := by decide +kernel
theorem dX11_nextOrder_78 : decode cX11_nextOrder 78 = .ok (.iload_n 2, 1) := by decide +kernel
theorem dX11_nextOrder_79 : decode cX11_nextOrder 79 = .ok (.iload_n 3, 1) := by decide +kernel
theorem dX11_nextOrder_80 : decode cX11_nextOrder 80 = .ok (.invokevirtual 326, 3) := by decide +kernel
theorem dX11_nextOrder_83 : decode cX11_nextOrder 83 = .ok (.iload_n 2, 1) := by decide +kernel
theorem dX11_nextOrder_84 : decode cX11_nextOrder 84 = .ok (.iconst 1, 1) := by decide +kernel
theorem dX11_nextOrder_85 : decode cX11_nextOrder 85 = .ok (.iadd, 1) := by decide +kernel
theorem dX11_nextOrder_86 : decode cX11_nextOrder 86 = .ok (.istore 4, 2) := by decide +kernel
theorem dX11_nextOrder_88 : decode cX11_nextOrder 88 = .ok (.iload_n 1, 1) := by decide +kernel
theorem dX11_nextOrder_89 : decode cX11_nextOrder 89 = .ok (.iconst 1, 1) := by decide +kernel
theorem dX11_nextOrder_90 : decode cX11_nextOrder 90 = .ok (.isub, 1) := by decide +kernel
theorem dX11_nextOrder_91 : decode cX11_nextOrder 91 = .ok (.istore 5, 2) := by decide +kernel
theorem dX11_nextOrder_93 : decode cX11_nextOrder 93 = .ok (.iload 4, 2) := by decide +kernel
theorem dX11_nextOrder_95 : decode cX11_nextOrder 95 = .ok (.iload 5, 2) := by decide +kernel
theorem dX11_nextOrder_97 : decode cX11_nextOrder 97 = .ok (.if_icmp .ge 20, 3) := by decide +kernel
theorem dX11_nextOrder_100 : decode cX11_nextOrder 100 = .ok (.aload_n 0, 1) := by decide +kernel
theorem dX11_nextOrder_101 : decode cX11_nextOrder 101 = .ok (.iload 4, 2) := by decide +kernel
theorem dX11_nextOrder_103 : decode cX11_nextOrder 103 = .ok (.iload 5, 2) := by decide +kernel
theorem dX11_nextOrder_105 : decode cX11_nextOrder 105 = .ok (.invokevirtual 326, 3) := by decide +kernel
theorem dX11_nextOrder_108 : decode cX11_nextOrder 108 = .ok (.iinc 4 1, 3) := by decide +kernel
theorem dX11_nextOrder_111 : decode cX11_nextOrder 111 = .ok (.iinc 5 (-1), 3) := by decide +kernel
theorem dX11_nextOrder_114 : decode cX11_nextOrder 114 = .ok (.goto (-21), 3) := by decide +kernel
theorem dX11_nextOrder_117 : decode cX11_nextOrder 117 = .ok (.iconst 1, 1) := by decide +kernel
theorem dX11_nextOrder_118 : decode cX11_nextOrder 118 = .ok (.ireturn, 1) := by decide +kernel
theorem dX11_swapPlaces_0 : decode cX11_swapPlaces 0 = .ok (.aload_n 0, 1) := by decide +kernel
theorem dX11_swapPlaces_1 : decode cX11_swapPlaces 1 = .ok (.getfield 35, 3) := by decide +kernel
theorem dX11_swapPlaces_4 : decode cX11_swapPlaces 4 = .ok (.iload_n 1, 1) := by decide +kernel
theorem dX11_swapPlaces_5 : decode cX11_swapPlaces 5 = .ok (.invokestatic 322, 3) := by decide +kernel
theorem dX11_swapPlaces_8 : decode cX11_swapPlaces 8 = .ok (.istore_n 3, 1) := by decide +kernel
theorem dX11_swapPlaces_9 : decode cX11_swapPlaces 9 = .ok (.aload_n 0, 1) := by decide +kernel
theorem dX11_swapPlaces_10 : decode cX11_swapPlaces 10 = .ok (.getfield 35, 3) := by decide +kernel
theorem dX11_swapPlaces_13 : decode cX11_swapPlaces 13 = .ok (.iload_n 1, 1) := by decide +kernel
theorem dX11_swapPlaces_14 : decode cX11_swapPlaces 14 = .ok (.aload_n 0, 1) := by decide +kernel
theorem dX11_swapPlaces_15 : decode cX11_swapPlaces 15 = .ok (.getfield 35, 3) := by decide +kernel
theorem dX11_swapPlaces_18 : decode cX11_swapPlaces 18 = .ok (.iload_n 2, 1) := by decide +kernel
theorem dX11_swapPlaces_19 : decode cX11_swapPlaces 19 = .ok (.invokestatic 322, 3) := by decide +kernel
theorem dX11_swapPlaces_22 : decode cX11_swapPlaces 22 = .ok (.invokestatic 329, 3) := by decide +kernel
theorem dX11_swapPlaces_25 : decode cX11_swapPlaces 25 = .ok (.aload_n 0, 1) := by decide +kernel
theorem dX11_swapPlaces_26 : decode cX11_swapPlaces 26 = .ok (.getfield 35, 3) := by decide +kernel
theorem dX11_swapPlaces_29 : decode cX11_swapPlaces 29 = .ok (.iload_n 2, 1) := by decide +kernel
theorem dX11_swapPlaces_30 : decode cX11_swapPlaces 30 = .ok (.iload_n 3, 1) := by decide +kernel
theorem dX11_swapPlaces_31 : decode cX11_swapPlaces 31 = .ok (.invokestatic 329, 3) := by decide +kernel
theorem dX11_swapPlaces_34 : decode cX11_swapPlaces 34 = .ok (.return_, 1) := by decide +kernel
theorem dX11_areWorths_0 : decode cX11_areWorths 0 = .ok (.aload_n 0, 1) := by decide +kernel
theorem dX11_areWorths_1 : decode cX11_areWorths 1 = .ok (.getfield 182, 3) := by decide +kernel
theorem dX11_areWorths_4 : decode cX11_areWorths 4 = .ok (.bipush 10, 2) := by decide +kernel
theorem dX11_areWorths_6 : decode cX11_areWorths 6 = .ok (.if_icmp .eq 5, 3) := by decide +kernel
theorem dX11_areWorths_9 : decode cX11_areWorths 9 = .ok (.iconst 0, 1) := by decide +kernel
theorem dX11_areWorths_10 : decode cX11_areWorths 10 = .ok (.ireturn, 1) := by decide +kernel
theorem dX11_areWorths_11 : decode cX11_areWorths 11 = .ok (.iconst 0, 1) := by decide +kernel
theorem dX11_areWorths_12 : decode cX11_areWorths 12 = .ok (.istore_n 1, 1) := by decide +kernel
theorem dX11_areWorths_13 : decode cX11_areWorths 13 = .ok (.iload_n 1, 1) := by decide +kernel
theorem dX11_areWorths_14 : decode cX11_areWorths 14 = .ok (.bipush 10, 2) := by decide +kernel
theorem dX11_areWorths_16 : decode cX11_areWorths 16 = .ok (.if_icmp .ge 31, 3) := by decide +kernel
theorem dX11_areWorths_19 : decode cX11_areWorths 19 = .ok (.aload_n 0, 1) := by decide +kernel
theorem dX11_areWorths_20 : decode cX11_areWorths 20 = .ok (.iload_n 1, 1) := by decide +kernel
theorem dX11_areWorths_21 : decode cX11_areWorths 21 = .ok (.invokevirtual 269, 3) := by decide +kernel
theorem dX11_areWorths_24 : decode cX11_areWorths 24 = .ok (.istore_n 2, 1) := by decide +kernel
theorem dX11_areWorths_25 : decode cX11_areWorths 25 = .ok (.iload_n 2, 1) := by decide +kernel
theorem dX11_areWorths_26 : decode cX11_areWorths 26 = .ok (.sipush (-999), 3) := by decide +kernel
theorem dX11_areWorths_29 : decode cX11_areWorths 29 = .ok (.if_icmp .lt 10, 3) := by decide +kernel
theorem dX11_areWorths_32 : decode cX11_areWorths 32 = .ok (.iload_n 2, 1) := by decide +kernel
theorem dX11_areWorths_33 : decode cX11_areWorths 33 = .ok (.sipush 999, 3) := by decide +kernel
theorem dX11_areWorths_36 : decode cX11_areWorths 36 = .ok (.if_icmp .le 5, 3) := by decide +kernel
theorem dX11_areWorths_39 : decode cX11_areWorths 39 = .ok (.iconst 0, 1) := by decide +kernel
theorem dX11_areWorths_40 : decode cX11_areWorths 40 = .ok (.ireturn, 1) := by decide +kernel
theorem dX11_areWorths_41 : decode cX11_areWorths 41 = .ok (.iinc 1 1, 3) := by decide +kernel
theorem dX11_areWorths_44 : decode cX11_areWorths 44 = .ok (.goto (-31), 3) := by decide +kernel
theorem dX11_areWorths_47 : decode cX11_areWorths 47 = .ok (.iconst 1, 1) := by decide +kernel
theorem dX11_areWorths_48 : decode cX11_areWorths 48 = .ok (.ireturn, 1) := by decide +kernel
theorem dX11_listMoves_0 : decode cX11_listMoves 0 = .ok (.aload_n 0, 1) := by decide +kernel
theorem dX11_listMoves_1 : decode cX11_listMoves 1 = .ok (.iconst 0, 1) := by decide +kernel
theorem dX11_listMoves_2 : decode cX11_listMoves 2 = .ok (.putfield 333, 3) := by decide +kernel
theorem dX11_listMoves_5 : decode cX11_listMoves 5 = .ok (.aload_n 0, 1) := by decide +kernel
theorem dX11_listMoves_6 : decode cX11_listMoves 6 = .ok (.bipush 9, 2) := by decide +kernel
theorem dX11_listMoves_8 : decode cX11_listMoves 8 = .ok (.bipush 9, 2) := by decide +kernel
theorem dX11_listMoves_10 : decode cX11_listMoves 10 = .ok (.iconst 1, 1) := by decide +kernel
theorem dX11_listMoves_11 : decode cX11_listMoves 11 = .ok (.invokevirtual 336, 3) := by decide +kernel
theorem dX11_listMoves_14 : decode cX11_listMoves 14 = .ok (.iconst 0, 1) := by decide +kernel
theorem dX11_listMoves_15 : decode cX11_listMoves 15 = .ok (.istore_n 1, 1) := by decide +kernel
theorem dX11_listMoves_16 : decode cX11_listMoves 16 = .ok (.iload_n 1, 1) := by decide +kernel
theorem dX11_listMoves_17 : decode cX11_listMoves 17 = .ok (.aload_n 0, 1) := by decide +kernel
theorem dX11_listMoves_18 : decode cX11_listMoves 18 = .ok (.getfield 10, 3) := by decide +kernel
theorem dX11_listMoves_21 : decode cX11_listMoves 21 = .ok (.getfield 207, 3) := by decide +kernel
theorem dX11_listMoves_24 : decode cX11_listMoves 24 = .ok (.if_icmp .ge 17, 3) := by decide +kernel
theorem dX11_listMoves_27 : decode cX11_listMoves 27 = .ok (.aload_n 0, 1) := by decide +kernel
theorem dX11_listMoves_28 : decode cX11_listMoves 28 = .ok (.iload_n 1, 1) := by decide +kernel
theorem dX11_listMoves_29 : decode cX11_listMoves 29 = .ok (.bipush 9, 2) := by decide +kernel
theorem dX11_listMoves_31 : decode cX11_listMoves 31 = .ok (.iconst 2, 1) := by decide +kernel
theorem dX11_listMoves_32 : decode cX11_listMoves 32 = .ok (.invokevirtual 336, 3) := by decide +kernel
theorem dX11_listMoves_35 : decode cX11_listMoves 35 = .ok (.iinc 1 1, 3) := by decide +kernel
theorem dX11_listMoves_38 : decode cX11_listMoves 38 = .ok (.goto (-22), 3) := by decide +kernel
theorem dX11_listMoves_41 : decode cX11_listMoves 41 = .ok (.iconst 0, 1) := by decide +kernel
theorem dX11_listMoves_42 : decode cX11_listMoves 42 = .ok (.istore_n 1, 1) := by decide +kernel
theorem dX11_listMoves_43 : decode cX11_listMoves 43 = .ok (.iload_n 1, 1) := by decide +kernel
theorem dX11_listMoves_44 : decode cX11_listMoves 44 = .ok (.aload_n 0, 1) := by decide +kernel
theorem dX11_listMoves_45 : decode cX11_listMoves 45 = .ok (.getfield 10, 3) := by decide +kernel
theorem dX11_listMoves_48 : decode cX11_listMoves 48 = .ok (.getfield 207, 3) := by decide +kernel
theorem dX11_listMoves_51 : decode cX11_listMoves 51 = .ok (.if_icmp .ge 40, 3) := by decide +kernel
theorem dX11_listMoves_54 : decode cX11_listMoves 54 = .ok (.iconst 0, 1) := by decide +kernel
theorem dX11_listMoves_55 : decode cX11_listMoves 55 = .ok (.istore_n 2, 1) := by decide +kernel
theorem dX11_listMoves_56 : decode cX11_listMoves 56 = .ok (.iload_n 2, 1) := by decide +kernel
theorem dX11_listMoves_57 : decode cX11_listMoves 57 = .ok (.aload_n 0, 1) := by decide +kernel
theorem dX11_listMoves_58 : decode cX11_listMoves 58 = .ok (.getfield 10, 3) := by decide +kernel
theorem dX11_listMoves_61 : decode cX11_listMoves 61 = .ok (.getfield 207, 3) := by decide +kernel
theorem dX11_listMoves_64 : decode cX11_listMoves 64 = .ok (.if_icmp .ge 21, 3) := by decide +kernel
theorem dX11_listMoves_67 : decode cX11_listMoves 67 = .ok (.iload_n 2, 1) := by decide +kernel
theorem dX11_listMoves_68 : decode cX11_listMoves 68 = .ok (.iload_n 1, 1) := by decide +kernel
theorem dX11_listMoves_69 : decode cX11_listMoves 69 = .ok (.if_icmp .eq 10, 3) := by decide +kernel
theorem dX11_listMoves_72 : decode cX11_listMoves 72 = .ok (.aload_n 0, 1) := by decide +kernel
theorem dX11_listMoves_73 : decode cX11_listMoves 73 = .ok (.iload_n 1, 1) := by decide +kernel
theorem dX11_listMoves_74 : decode cX11_listMoves 74 = .ok (.iload_n 2, 1) := by decide +kernel
theorem dX11_listMoves_75 : decode cX11_listMoves 75 = .ok (.iconst 4, 1) := by decide +kernel
theorem dX11_listMoves_76 : decode cX11_listMoves 76 = .ok (.invokevirtual 336, 3) := by decide +kernel
theorem dX11_listMoves_79 : decode cX11_listMoves 79 = .ok (.iinc 2 1, 3) := by decide +kernel
theorem dX11_listMoves_82 : decode cX11_listMoves 82 = .ok (.goto (-26), 3) := by decide +kernel
theorem dX11_listMoves_85 : decode cX11_listMoves 85 = .ok (.iinc 1 1, 3) := by decide +kernel
theorem dX11_listMoves_88 : decode cX11_listMoves 88 = .ok (.goto (-45), 3) := by decide +kernel
theorem dX11_listMoves_91 : decode cX11_listMoves 91 = .ok (.return_, 1) := by decide +kernel
theorem dX11_addMoves_0 : decode cX11_addMoves 0 = .ok (.iconst 0, 1) := by decide +kernel
theorem dX11_addMoves_1 : decode cX11_addMoves 1 = .ok (.istore 4, 2) := by decide +kernel
theorem dX11_addMoves_3 : decode cX11_addMoves 3 = .ok (.iload 4, 2) := by decide +kernel
theorem dX11_addMoves_5 : decode cX11_addMoves 5 = .ok (.iload_n 3, 1) := by decide +kernel
theorem dX11_addMoves_6 : decode cX11_addMoves 6 = .ok (.if_icmp .ge 42, 3) := by decide +kernel
theorem dX11_addMoves_9 : decode cX11_addMoves 9 = .ok (.aload_n 0, 1) := by decide +kernel
theorem dX11_addMoves_10 : decode cX11_addMoves 10 = .ok (.getfield 39, 3) := by decide +kernel
theorem dX11_addMoves_13 : decode cX11_addMoves 13 = .ok (.aload_n 0, 1) := by decide +kernel
theorem dX11_addMoves_14 : decode cX11_addMoves 14 = .ok (.getfield 333, 3) := by decide +kernel
theorem dX11_addMoves_17 : decode cX11_addMoves 17 = .ok (.bipush 100, 2) := by decide +kernel
theorem dX11_addMoves_19 : decode cX11_addMoves 19 = .ok (.iload 4, 2) := by decide +kernel
theorem dX11_addMoves_21 : decode cX11_addMoves 21 = .ok (.imul, 1) := by decide +kernel
theorem dX11_addMoves_22 : decode cX11_addMoves 22 = .ok (.bipush 10, 2) := by decide +kernel
theorem dX11_addMoves_24 : decode cX11_addMoves 24 = .ok (.iload_n 1, 1) := by decide +kernel
theorem dX11_addMoves_25 : decode cX11_addMoves 25 = .ok (.imul, 1) := by decide +kernel
theorem dX11_addMoves_26 : decode cX11_addMoves 26 = .ok (.iadd, 1) := by decide +kernel
theorem dX11_addMoves_27 : decode cX11_addMoves 27 = .ok (.iload_n 2, 1) := by decide +kernel
theorem dX11_addMoves_28 : decode cX11_addMoves 28 = .ok (.iadd, 1) := by decide +kernel
theorem dX11_addMoves_29 : decode cX11_addMoves 29 = .ok (.invokestatic 329, 3) := by decide +kernel
theorem dX11_addMoves_32 : decode cX11_addMoves 32 = .ok (.aload_n 0, 1) := by decide +kernel
theorem dX11_addMoves_33 : decode cX11_addMoves 33 = .ok (.dup, 1) := by decide +kernel
theorem dX11_addMoves_34 : decode cX11_addMoves 34 = .ok (.getfield 333, 3) := by decide +kernel
theorem dX11_addMoves_37 : decode cX11_addMoves 37 = .ok (.iconst 1, 1) := by decide +kernel
theorem dX11_addMoves_38 : decode cX11_addMoves 38 = .ok (.iadd, 1) := by decide +kernel
theorem dX11_addMoves_39 : decode cX11_addMoves 39 = .ok (.putfield 333, 3) := by decide +kernel
theorem dX11_addMoves_42 : decode cX11_addMoves 42 = .ok (.iinc 4 1, 3) := by decide +kernel
theorem dX11_addMoves_45 : decode cX11_addMoves 45 = .ok (.goto (-42), 3) := by decide +kernel
theorem dX11_addMoves_48 : decode cX11_addMoves 48 = .ok (.return_, 1) := by decide +kernel
theorem dX11_bestMove_0 : decode cX11_bestMove 0 = .ok (.aload_n 0, 1) := by decide +kernel
theorem dX11_bestMove_1 : decode cX11_bestMove 1 = .ok (.getfield 39, 3) := by decide +kernel
theorem dX11_bestMove_4 : decode cX11_bestMove 4 = .ok (.iconst 0, 1) := by decide +kernel
theorem dX11_bestMove_5 : decode cX11_bestMove 5 = .ok (.invokestatic 322, 3) := by decide +kernel
theorem dX11_bestMove_8 : decode cX11_bestMove 8 = .ok (.istore_n 3, 1) := by decide +kernel
theorem dX11_bestMove_9 : decode cX11_bestMove 9 = .ok (.aload_n 0, 1) := by decide +kernel
theorem dX11_bestMove_10 : decode cX11_bestMove 10 = .ok (.iload_n 3, 1) := by decide +kernel
theorem dX11_bestMove_11 : decode cX11_bestMove 11 = .ok (.iload_n 1, 1) := by decide +kernel
theorem dX11_bestMove_12 : decode cX11_bestMove 12 = .ok (.aload_n 2, 1) := by decide +kernel
theorem dX11_bestMove_13 : decode cX11_bestMove 13 = .ok (.invokevirtual 203, 3) := by decide +kernel
theorem dX11_bestMove_16 : decode cX11_bestMove 16 = .ok (.istore 4, 2) := by decide +kernel
theorem dX11_bestMove_18 : decode cX11_bestMove 18 = .ok (.iconst 0, 1) := by decide +kernel
theorem dX11_bestMove_19 : decode cX11_bestMove 19 = .ok (.istore 5, 2) := by decide +kernel
theorem dX11_bestMove_21 : decode cX11_bestMove 21 = .ok (.iload 5, 2) := by decide +kernel
theorem dX11_bestMove_23 : decode cX11_bestMove 23 = .ok (.aload_n 0, 1) := by decide +kernel
theorem dX11_bestMove_24 : decode cX11_bestMove 24 = .ok (.getfield 333, 3) := by decide +kernel
theorem dX11_bestMove_27 : decode cX11_bestMove 27 = .ok (.if_icmp .ge 104, 3) := by decide +kernel
theorem dX11_bestMove_30 : decode cX11_bestMove 30 = .ok (.aload_n 0, 1) := by decide +kernel
theorem dX11_bestMove_31 : decode cX11_bestMove 31 = .ok (.getfield 39, 3) := by decide +kernel
theorem dX11_bestMove_34 : decode cX11_bestMove 34 = .ok (.iload 5, 2) := by decide +kernel
theorem dX11_bestMove_36 : decode cX11_bestMove 36 = .ok (.invokestatic 322, 3) := by decide +kernel
theorem dX11_bestMove_39 : decode cX11_bestMove 39 = .ok (.istore 6, 2) := by decide +kernel
theorem dX11_bestMove_41 : decode cX11_bestMove 41 = .ok (.aload_n 0, 1) := by decide +kernel
theorem dX11_bestMove_42 : decode cX11_bestMove 42 = .ok (.iload 6, 2) := by decide +kernel
theorem dX11_bestMove_44 : decode cX11_bestMove 44 = .ok (.aload_n 0, 1) := by decide +kernel
theorem dX11_bestMove_45 : decode cX11_bestMove 45 = .ok (.getfield 10, 3) := by decide +kernel
theorem dX11_bestMove_48 : decode cX11_bestMove 48 = .ok (.getfield 94, 3) := by decide +kernel
theorem dX11_bestMove_51 : decode cX11_bestMove 51 = .ok (.aload_n 0, 1) := by decide +kernel
theorem dX11_bestMove_52 : decode cX11_bestMove 52 = .ok (.getfield 10, 3) := by decide +kernel
theorem dX11_bestMove_55 : decode cX11_bestMove 55 = .ok (.getfield 97, 3) := by decide +kernel
theorem dX11_bestMove_58 : decode cX11_bestMove 58 = .ok (.invokevirtual 340, 3) := by decide +kernel
theorem dX11_bestMove_61 : decode cX11_bestMove 61 = .ok (.aload_n 0, 1) := by decide +kernel
theorem dX11_bestMove_62 : decode cX11_bestMove 62 = .ok (.getfield 42, 3) := by decide +kernel
theorem dX11_bestMove_65 : decode cX11_bestMove 65 = .ok (.iload 5, 2) := by decide +kernel
theorem dX11_bestMove_67 : decode cX11_bestMove 67 = .ok (.sipush 10000, 3) := by decide +kernel
theorem dX11_bestMove_70 : decode cX11_bestMove 70 = .ok (.aload_n 0, 1) := by decide +kernel
theorem dX11_bestMove_71 : decode cX11_bestMove 71 = .ok (.getfield 25, 3) := by decide +kernel
theorem dX11_bestMove_74 : decode cX11_bestMove 74 = .ok (.getfield 155, 3) := by decide +kernel
theorem dX11_bestMove_77 : decode cX11_bestMove 77 = .ok (.imul, 1) := by decide +kernel
theorem dX11_bestMove_78 : decode cX11_bestMove 78 = .ok (.aload_n 0, 1) := by decide +kernel
theorem dX11_bestMove_79 : decode cX11_bestMove 79 = .ok (.getfield 25, 3) := by decide +kernel
theorem dX11_bestMove_82 : decode cX11_bestMove 82 = .ok (.getfield 162, 3) := by decide +kernel
theorem dX11_bestMove_85 : decode cX11_bestMove 85 = .ok (.iadd, 1) := by decide +kernel
theorem dX11_bestMove_86 : decode cX11_bestMove 86 = .ok (.invokestatic 329, 3) := by decide +kernel
theorem dX11_bestMove_89 : decode cX11_bestMove 89 = .ok (.aload_n 0, 1) := by decide +kernel
theorem dX11_bestMove_90 : decode cX11_bestMove 90 = .ok (.iload 5, 2) := by decide +kernel
theorem dX11_bestMove_92 : decode cX11_bestMove 92 = .ok (.invokevirtual 343, 3) := by decide +kernel
theorem dX11_bestMove_95 : decode cX11_bestMove 95 = .ok (.ifCond .eq 6, 3) := by decide +kernel
theorem dX11_bestMove_98 : decode cX11_bestMove 98 = .ok (.goto 27, 3) := by decide +kernel
theorem dX11_bestMove_101 : decode cX11_bestMove 101 = .ok (.aload_n 0, 1) := by decide +kernel
theorem dX11_bestMove_102 : decode cX11_bestMove 102 = .ok (.iload 6, 2) := by decide +kernel
theorem dX11_bestMove_104 : decode cX11_bestMove 104 = .ok (.iload_n 1, 1) := by decide +kernel
theorem dX11_bestMove_105 : decode cX11_bestMove 105 = .ok (.aload_n 2, 1) := by decide +kernel
theorem dX11_bestMove_106 : decode cX11_bestMove 106 = .ok (.invokevirtual 203, 3) := by decide +kernel
theorem dX11_bestMove_109 : decode cX11_bestMove 109 = .ok (.istore 7, 2) := by decide +kernel
theorem dX11_bestMove_111 : decode cX11_bestMove 111 = .ok (.iload 7, 2) := by decide +kernel
theorem dX11_bestMove_113 : decode cX11_bestMove 113 = .ok (.iload 4, 2) := by decide +kernel
theorem dX11_bestMove_115 : decode cX11_bestMove 115 = .ok (.if_icmp .le 10, 3) := by decide +kernel
theorem dX11_bestMove_118 : decode cX11_bestMove 118 = .ok (.iload 6, 2) := by decide +kernel
theorem dX11_bestMove_120 : decode cX11_bestMove 120 = .ok (.istore_n 3, 1) := by decide +kernel
theorem dX11_bestMove_121 : decode cX11_bestMove 121 = .ok (.iload 7, 2) := by decide +kernel
theorem dX11_bestMove_123 : decode cX11_bestMove 123 = .ok (.istore 4, 2) := by decide +kernel
theorem dX11_bestMove_125 : decode cX11_bestMove 125 = .ok (.iinc 5 1, 3) := by decide +kernel
theorem dX11_bestMove_128 : decode cX11_bestMove 128 = .ok (.goto (-107), 3) := by decide +kernel
theorem dX11_bestMove_131 : decode cX11_bestMove 131 = .ok (.iload_n 3, 1) := by decide +kernel
theorem dX11_bestMove_132 : decode cX11_bestMove 132 = .ok (.ireturn, 1) := by decide +kernel
theorem dX11_endedSoBefore_0 : decode cX11_endedSoBefore 0 = .ok (.iconst 0, 1) := by decide +kernel
theorem dX11_endedSoBefore_1 : decode cX11_endedSoBefore 1 = .ok (.istore_n 2, 1) := by decide +kernel
theorem dX11_endedSoBefore_2 : decode cX11_endedSoBefore 2 = .ok (.iload_n 2, 1) := by decide +kernel
theorem dX11_endedSoBefore_3 : decode cX11_endedSoBefore 3 = .ok (.iload_n 1, 1) := by decide +kernel
theorem dX11_endedSoBefore_4 : decode cX11_endedSoBefore 4 = .ok (.if_icmp .ge 30, 3) := by decide +kernel
theorem dX11_endedSoBefore_7 : decode cX11_endedSoBefore 7 = .ok (.aload_n 0, 1) := by decide +kernel
theorem dX11_endedSoBefore_8 : decode cX11_endedSoBefore 8 = .ok (.getfield 42, 3) := by decide +kernel
theorem dX11_endedSoBefore_11 : decode cX11_endedSoBefore 11 = .ok (.iload_n 2, 1) := by decide +kernel
theorem dX11_endedSoBefore_12 : decode cX11_endedSoBefore 12 = .ok (.invokestatic 322, 3) := by decide +kernel
theorem dX11_endedSoBefore_15 : decode cX11_endedSoBefore 15 = .ok (.aload_n 0, 1) := by decide +kernel
theorem dX11_endedSoBefore_16 : decode cX11_endedSoBefore 16 = .ok (.getfield 42, 3) := by decide +kernel
theorem dX11_endedSoBefore_19 : decode cX11_endedSoBefore 19 = .ok (.iload_n 1, 1) := by decide +kernel
theorem dX11_endedSoBefore_20 : decode cX11_endedSoBefore 20 = .ok (.invokestatic 322, 3) := by decide +kernel
theorem dX11_endedSoBefore_23 : decode cX11_endedSoBefore 23 = .ok (.if_icmp .ne 5, 3) := by decide +kernel
theorem dX11_endedSoBefore_26 : decode cX11_endedSoBefore 26 = .ok (.iconst 1, 1) := by decide +kernel
theorem dX11_endedSoBefore_27 : decode cX11_endedSoBefore 27 = .ok (.ireturn, 1) := by decide +kernel
theorem dX11_endedSoBefore_28 : decode cX11_endedSoBefore 28 = .ok (.iinc 2 1, 3) := by decide +kernel
theorem dX11_endedSoBefore_31 : decode cX11_endedSoBefore 31 = .ok (.goto (-29), 3) := by decide +kernel
theorem dX11_endedSoBefore_34 : decode cX11_endedSoBefore 34 = .ok (.iconst 0, 1) := by decide +kernel
theorem dX11_endedSoBefore_35 : decode cX11_endedSoBefore 35 = .ok (.ireturn, 1) := by decide +kernel
theorem dX11_worthOfMove_0 : decode cX11_worthOfMove 0 = .ok (.aload_n 0, 1) := by decide +kernel
theorem dX11_worthOfMove_1 : decode cX11_worthOfMove 1 = .ok (.iload_n 1, 1) := by decide +kernel
theorem dX11_worthOfMove_2 : decode cX11_worthOfMove 2 = .ok (.aload_n 0, 1) := by decide +kernel
theorem dX11_worthOfMove_3 : decode cX11_worthOfMove 3 = .ok (.getfield 10, 3) := by decide +kernel
theorem dX11_worthOfMove_6 : decode cX11_worthOfMove 6 = .ok (.getfield 94, 3) := by decide +kernel
theorem dX11_worthOfMove_9 : decode cX11_worthOfMove 9 = .ok (.aload_n 0, 1) := by decide +kernel
theorem dX11_worthOfMove_10 : decode cX11_worthOfMove 10 = .ok (.getfield 10, 3) := by decide +kernel
theorem dX11_worthOfMove_13 : decode cX11_worthOfMove 13 = .ok (.getfield 97, 3) := by decide +kernel
theorem dX11_worthOfMove_16 : decode cX11_worthOfMove 16 = .ok (.invokevirtual 340, 3) := by decide +kernel
theorem dX11_worthOfMove_19 : decode cX11_worthOfMove 19 = .ok (.aload_n 0, 1) := by decide +kernel
theorem dX11_worthOfMove_20 : decode cX11_worthOfMove 20 = .ok (.getfield 25, 3) := by decide +kernel
theorem dX11_worthOfMove_23 : decode cX11_worthOfMove 23 = .ok (.getfield 155, 3) := by decide +kernel
theorem dX11_worthOfMove_26 : decode cX11_worthOfMove 26 = .ok (.aload_n 3, 1) := by decide +kernel
theorem dX11_worthOfMove_27 : decode cX11_worthOfMove 27 = .ok (.invokestatic 346, 3) := by decide +kernel
theorem dX11_worthOfMove_30 : decode cX11_worthOfMove 30 = .ok (.istore 4, 2) := by decide +kernel
theorem dX11_worthOfMove_32 : decode cX11_worthOfMove 32 = .ok (.iload_n 2, 1) := by decide +kernel
theorem dX11_worthOfMove_33 : decode cX11_worthOfMove 33 = .ok (.iconst 1, 1) := by decide +kernel
theorem dX11_worthOfMove_34 : decode cX11_worthOfMove 34 = .ok (.if_icmp .ne 6, 3) := by decide +kernel
theorem dX11_worthOfMove_37 : decode cX11_worthOfMove 37 = .ok (.iload 4, 2) := by decide +kernel
theorem dX11_worthOfMove_39 : decode cX11_worthOfMove 39 = .ok (.ireturn, 1) := by decide +kernel
theorem dX11_worthOfMove_40 : decode cX11_worthOfMove 40 = .ok (.aload_n 0, 1) := by decide +kernel
theorem dX11_worthOfMove_41 : decode cX11_worthOfMove 41 = .ok (.getfield 25, 3) := by decide +kernel
theorem dX11_worthOfMove_44 : decode cX11_worthOfMove 44 = .ok (.getfield 155, 3) := by decide +kernel
theorem dX11_worthOfMove_47 : decode cX11_worthOfMove 47 = .ok (.istore 5, 2) := by decide +kernel
theorem dX11_worthOfMove_49 : decode cX11_worthOfMove 49 = .ok (.aload_n 0, 1) := by decide +kernel
theorem dX11_worthOfMove_50 : decode cX11_worthOfMove 50 = .ok (.getfield 25, 3) := by decide +kernel
theorem dX11_worthOfMove_53 : decode cX11_worthOfMove 53 = .ok (.getfield 162, 3) := by decide +kernel
theorem dX11_worthOfMove_56 : decode cX11_worthOfMove 56 = .ok (.istore 6, 2) := by decide +kernel
theorem dX11_worthOfMove_58 : decode cX11_worthOfMove 58 = .ok (.iconst 1, 1) := by decide +kernel
theorem dX11_worthOfMove_59 : decode cX11_worthOfMove 59 = .ok (.istore 7, 2) := by decide +kernel
theorem dX11_worthOfMove_61 : decode cX11_worthOfMove 61 = .ok (.iload 7, 2) := by decide +kernel
theorem dX11_worthOfMove_63 : decode cX11_worthOfMove 63 = .ok (.aload_n 0, 1) := by decide +kernel
theorem dX11_worthOfMove_64 : decode cX11_worthOfMove 64 = .ok (.getfield 333, 3) := by decide +kernel
theorem dX11_worthOfMove_67 : decode cX11_worthOfMove 67 = .ok (.if_icmp .ge 44, 3) := by decide +kernel
theorem dX11_worthOfMove_70 : decode cX11_worthOfMove 70 = .ok (.aload_n 0, 1) := by decide +kernel
theorem dX11_worthOfMove_71 : decode cX11_worthOfMove 71 = .ok (.aload_n 0, 1) := by decide +kernel
theorem dX11_worthOfMove_72 : decode cX11_worthOfMove 72 = .ok (.getfield 39, 3) := by decide +kernel
theorem dX11_worthOfMove_75 : decode cX11_worthOfMove 75 = .ok (.iload 7, 2) := by decide +kernel
theorem dX11_worthOfMove_77 : decode cX11_worthOfMove 77 = .ok (.invokestatic 322, 3) := by decide +kernel
theorem dX11_worthOfMove_80 : decode cX11_worthOfMove 80 = .ok (.iload 5, 2) := by decide +kernel
theorem dX11_worthOfMove_82 : decode cX11_worthOfMove 82 = .ok (.iload 6, 2) := by decide +kernel
theorem dX11_worthOfMove_84 : decode cX11_worthOfMove 84 = .ok (.invokevirtual 340, 3) := by decide +kernel
theorem dX11_worthOfMove_87 : decode cX11_worthOfMove 87 = .ok (.iload 4, 2) := by decide +kernel
theorem dX11_worthOfMove_89 : decode cX11_worthOfMove 89 = .ok (.aload_n 0, 1) := by decide +kernel
theorem dX11_worthOfMove_90 : decode cX11_worthOfMove 90 = .ok (.getfield 25, 3) := by decide +kernel
theorem dX11_worthOfMove_93 : decode cX11_worthOfMove 93 = .ok (.getfield 155, 3) := by decide +kernel
theorem dX11_worthOfMove_96 : decode cX11_worthOfMove 96 = .ok (.aload_n 3, 1) := by decide +kernel
theorem dX11_worthOfMove_97 : decode cX11_worthOfMove 97 = .ok (.invokestatic 346, 3) := by decide +kernel
theorem dX11_worthOfMove_100 : decode cX11_worthOfMove 100 = .ok (.invokestatic 349, 3) := by decide +kernel
theorem dX11_worthOfMove_103 : decode cX11_worthOfMove 103 = .ok (.istore 4, 2) := by decide +kernel
theorem dX11_worthOfMove_105 : decode cX11_worthOfMove 105 = .ok (.iinc 7 1, 3) := by decide +kernel
theorem dX11_worthOfMove_108 : decode cX11_worthOfMove 108 = .ok (.goto (-47), 3) := by decide +kernel
theorem dX11_worthOfMove_111 : decode cX11_worthOfMove 111 = .ok (.iload 4, 2) := by decide +kernel
theorem dX11_worthOfMove_113 : decode cX11_worthOfMove 113 = .ok (.ireturn, 1) := by decide +kernel
theorem dX11_playMove_0 : decode cX11_playMove 0 = .ok (.aload_n 0, 1) := by decide +kernel
theorem dX11_playMove_1 : decode cX11_playMove 1 = .ok (.getfield 25, 3) := by decide +kernel
theorem dX11_playMove_4 : decode cX11_playMove 4 = .ok (.aload_n 0, 1) := by decide +kernel
theorem dX11_playMove_5 : decode cX11_playMove 5 = .ok (.getfield 10, 3) := by decide +kernel
theorem dX11_playMove_8 : decode cX11_playMove 8 = .ok (.invokevirtual 306, 3) := by decide +kernel
theorem dX11_playMove_11 : decode cX11_playMove 11 = .ok (.aload_n 0, 1) := by decide +kernel
theorem dX11_playMove_12 : decode cX11_playMove 12 = .ok (.getfield 25, 3) := by decide +kernel
theorem dX11_playMove_15 : decode cX11_playMove 15 = .ok (.aload_n 0, 1) := by decide +kernel
theorem dX11_playMove_16 : decode cX11_playMove 16 = .ok (.getfield 10, 3) := by decide +kernel
theorem dX11_playMove_19 : decode cX11_playMove 19 = .ok (.iload_n 1, 1) := by decide +kernel
theorem dX11_playMove_20 : decode cX11_playMove 20 = .ok (.bipush 10, 2) := by decide +kernel
theorem dX11_playMove_22 : decode cX11_playMove 22 = .ok (.idiv, 1) := by decide +kernel
theorem dX11_playMove_23 : decode cX11_playMove 23 = .ok (.bipush 10, 2) := by decide +kernel
theorem dX11_playMove_25 : decode cX11_playMove 25 = .ok (.irem, 1) := by decide +kernel
theorem dX11_playMove_26 : decode cX11_playMove 26 = .ok (.invokevirtual 62, 3) := by decide +kernel
theorem dX11_playMove_29 : decode cX11_playMove 29 = .ok (.invokevirtual 309, 3) := by decide +kernel
theorem dX11_playMove_32 : decode cX11_playMove 32 = .ok (.aload_n 0, 1) := by decide +kernel
theorem dX11_playMove_33 : decode cX11_playMove 33 = .ok (.getfield 25, 3) := by decide +kernel
theorem dX11_playMove_36 : decode cX11_playMove 36 = .ok (.aload_n 0, 1) := by decide +kernel
theorem dX11_playMove_37 : decode cX11_playMove 37 = .ok (.getfield 10, 3) := by decide +kernel
theorem dX11_playMove_40 : decode cX11_playMove 40 = .ok (.iload_n 1, 1) := by decide +kernel
theorem dX11_playMove_41 : decode cX11_playMove 41 = .ok (.bipush 10, 2) := by decide +kernel
theorem dX11_playMove_43 : decode cX11_playMove 43 = .ok (.irem, 1) := by decide +kernel
theorem dX11_playMove_44 : decode cX11_playMove 44 = .ok (.invokevirtual 62, 3) := by decide +kernel
theorem dX11_playMove_47 : decode cX11_playMove 47 = .ok (.invokevirtual 309, 3) := by decide +kernel
theorem dX11_playMove_50 : decode cX11_playMove 50 = .ok (.aload_n 0, 1) := by decide +kernel
theorem dX11_playMove_51 : decode cX11_playMove 51 = .ok (.getfield 25, 3) := by decide +kernel
theorem dX11_playMove_54 : decode cX11_playMove 54 = .ok (.iload_n 2, 1) := by decide +kernel
theorem dX11_playMove_55 : decode cX11_playMove 55 = .ok (.iload_n 3, 1) := by decide +kernel
theorem dX11_playMove_56 : decode cX11_playMove 56 = .ok (.invokevirtual 145, 3) := by decide +kernel
theorem dX11_playMove_59 : decode cX11_playMove 59 = .ok (.aload_n 0, 1) := by decide +kernel
theorem dX11_playMove_60 : decode cX11_playMove 60 = .ok (.getfield 25, 3) := by decide +kernel
theorem dX11_playMove_63 : decode cX11_playMove 63 = .ok (.iload_n 1, 1) := by decide +kernel
theorem dX11_playMove_64 : decode cX11_playMove 64 = .ok (.bipush 100, 2) := by decide +kernel
theorem dX11_playMove_66 : decode cX11_playMove 66 = .ok (.idiv, 1) := by decide +kernel
theorem dX11_playMove_67 : decode cX11_playMove 67 = .ok (.invokevirtual 149, 3) := by decide +kernel
theorem dX11_playMove_70 : decode cX11_playMove 70 = .ok (.aload_n 0, 1) := by decide +kernel
theorem dX11_playMove_71 : decode cX11_playMove 71 = .ok (.getfield 25, 3) := by decide +kernel
theorem dX11_playMove_74 : decode cX11_playMove 74 = .ok (.invokevirtual 354, 3) := by decide +kernel
theorem dX11_playMove_77 : decode cX11_playMove 77 = .ok (.return_, 1) := by decide +kernel
theorem dX11_worthOfMarks_0 : decode cX11_worthOfMarks 0 = .ok (.iconst 0, 1) := by decide +kernel
theorem dX11_worthOfMarks_1 : decode cX11_worthOfMarks 1 = .ok (.istore_n 2, 1) := by decide +kernel
theorem dX11_worthOfMarks_2 : decode cX11_worthOfMarks 2 = .ok (.iconst 0, 1) := by decide +kernel
theorem dX11_worthOfMarks_3 : decode cX11_worthOfMarks 3 = .ok (.istore_n 3, 1) := by decide +kernel
theorem dX11_worthOfMarks_4 : decode cX11_worthOfMarks 4 = .ok (.iload_n 3, 1) := by decide +kernel
theorem dX11_worthOfMarks_5 : decode cX11_worthOfMarks 5 = .ok (.bipush 10, 2) := by decide +kernel
theorem dX11_worthOfMarks_7 : decode cX11_worthOfMarks 7 = .ok (.if_icmp .ge 25, 3) := by decide +kernel
theorem dX11_worthOfMarks_10 : decode cX11_worthOfMarks 10 = .ok (.iload_n 0, 1) := by decide +kernel
theorem dX11_worthOfMarks_11 : decode cX11_worthOfMarks 11 = .ok (.iload_n 3, 1) := by decide +kernel
theorem dX11_worthOfMarks_12 : decode cX11_worthOfMarks 12 = .ok (.ishr, 1) := by decide +kernel
theorem dX11_worthOfMarks_13 : decode cX11_worthOfMarks 13 = .ok (.iconst 1, 1) := by decide +kernel
theorem dX11_worthOfMarks_14 : decode cX11_worthOfMarks 14 = .ok (.iand, 1) := by decide +kernel
theorem dX11_worthOfMarks_15 : decode cX11_worthOfMarks 15 = .ok (.ifCond .eq 11, 3) := by decide +kernel
theorem dX11_worthOfMarks_18 : decode cX11_worthOfMarks 18 = .ok (.iload_n 2, 1) := by decide +kernel
theorem dX11_worthOfMarks_19 : decode cX11_worthOfMarks 19 = .ok (.aload_n 1, 1) := by decide +kernel
theorem dX11_worthOfMarks_20 : decode cX11_worthOfMarks 20 = .ok (.iload_n 3, 1) := by decide +kernel
theorem dX11_worthOfMarks_21 : decode cX11_worthOfMarks 21 = .ok (.invokevirtual 269, 3) := by decide +kernel
theorem dX11_worthOfMarks_24 : decode cX11_worthOfMarks 24 = .ok (.iadd, 1) := by decide +kernel
theorem dX11_worthOfMarks_25 : decode cX11_worthOfMarks 25 = .ok (.istore_n 2, 1) := by decide +kernel
theorem dX11_worthOfMarks_26 : decode cX11_worthOfMarks 26 = .ok (.iinc 3 1, 3) := by decide +kernel
theorem dX11_worthOfMarks_29 : decode cX11_worthOfMarks 29 = .ok (.goto (-25), 3) := by decide +kernel
theorem dX11_worthOfMarks_32 : decode cX11_worthOfMarks 32 = .ok (.iload_n 2, 1) := by decide +kernel
theorem dX11_worthOfMarks_33 : decode cX11_worthOfMarks 33 = .ok (.ireturn, 1) := by decide +kernel
theorem dX11_playTwo_0 : decode cX11_playTwo 0 = .ok (.iconst 0, 1) := by decide +kernel
theorem dX11_playTwo_1 : decode cX11_playTwo 1 = .ok (.istore 5, 2) := by decide +kernel
theorem dX11_playTwo_3 : decode cX11_playTwo 3 = .ok (.iconst 0, 1) := by decide +kernel
theorem dX11_playTwo_4 : decode cX11_playTwo 4 = .ok (.istore 6, 2) := by decide +kernel
theorem dX11_playTwo_6 : decode cX11_playTwo 6 = .ok (.aload_n 0, 1) := by decide +kernel
theorem dX11_playTwo_7 : decode cX11_playTwo 7 = .ok (.getfield 25, 3) := by decide +kernel
theorem dX11_playTwo_10 : decode cX11_playTwo 10 = .ok (.aload_n 0, 1) := by decide +kernel
theorem dX11_playTwo_11 : decode cX11_playTwo 11 = .ok (.getfield 10, 3) := by decide +kernel
theorem dX11_playTwo_14 : decode cX11_playTwo 14 = .ok (.invokevirtual 306, 3) := by decide +kernel
theorem dX11_playTwo_17 : decode cX11_playTwo 17 = .ok (.iconst 0, 1) := by decide +kernel
theorem dX11_playTwo_18 : decode cX11_playTwo 18 = .ok (.istore 7, 2) := by decide +kernel
theorem dX11_playTwo_20 : decode cX11_playTwo 20 = .ok (.iload 7, 2) := by decide +kernel
theorem dX11_playTwo_22 : decode cX11_playTwo 22 = .ok (.bipush 8, 2) := by decide +kernel
theorem dX11_playTwo_24 : decode cX11_playTwo 24 = .ok (.if_icmp .ge 120, 3) := by decide +kernel
theorem dX11_playTwo_27 : decode cX11_playTwo 27 = .ok (.iload 7, 2) := by decide +kernel
theorem dX11_playTwo_29 : decode cX11_playTwo 29 = .ok (.aload_n 1, 1) := by decide +kernel
theorem dX11_playTwo_30 : decode cX11_playTwo 30 = .ok (.getfield 182, 3) := by decide +kernel
theorem dX11_playTwo_33 : decode cX11_playTwo 33 = .ok (.if_icmp .ge 56, 3) := by decide +kernel
theorem dX11_playTwo_36 : decode cX11_playTwo 36 = .ok (.iload 5, 2) := by decide +kernel
theorem dX11_playTwo_38 : decode cX11_playTwo 38 = .ok (.iconst 1, 1) := by decide +kernel
theorem dX11_playTwo_39 : decode cX11_playTwo 39 = .ok (.aload_n 0, 1) := by decide +kernel
theorem dX11_playTwo_40 : decode cX11_playTwo 40 = .ok (.getfield 25, 3) := by decide +kernel
theorem dX11_playTwo_43 : decode cX11_playTwo 43 = .ok (.getfield 156, 3) := by decide +kernel
theorem dX11_playTwo_46 : decode cX11_playTwo 46 = .ok (.ishl, 1) := by decide +kernel
theorem dX11_playTwo_47 : decode cX11_playTwo 47 = .ok (.ior, 1) := by decide +kernel
theorem dX11_playTwo_48 : decode cX11_playTwo 48 = .ok (.istore 5, 2) := by decide +kernel
theorem dX11_playTwo_50 : decode cX11_playTwo 50 = .ok (.iload 6, 2) := by decide +kernel
theorem dX11_playTwo_52 : decode cX11_playTwo 52 = .ok (.iload_n 3, 1) := by decide +kernel
theorem dX11_playTwo_53 : decode cX11_playTwo 53 = .ok (.iload 7, 2) := by decide +kernel
theorem dX11_playTwo_55 : decode cX11_playTwo 55 = .ok (.ishr, 1) := by decide +kernel
theorem dX11_playTwo_56 : decode cX11_playTwo 56 = .ok (.iconst 1, 1) := by decide +kernel
theorem dX11_playTwo_57 : decode cX11_playTwo 57 = .ok (.iand, 1) := by decide +kernel
theorem dX11_playTwo_58 : decode cX11_playTwo 58 = .ok (.aload_n 0, 1) := by decide +kernel
theorem dX11_playTwo_59 : decode cX11_playTwo 59 = .ok (.getfield 25, 3) := by decide +kernel
theorem dX11_playTwo_62 : decode cX11_playTwo 62 = .ok (.getfield 156, 3) := by decide +kernel
theorem dX11_playTwo_65 : decode cX11_playTwo 65 = .ok (.ishl, 1) := by decide +kernel
theorem dX11_playTwo_66 : decode cX11_playTwo 66 = .ok (.ior, 1) := by decide +kernel
theorem dX11_playTwo_67 : decode cX11_playTwo 67 = .ok (.istore 6, 2) := by decide +kernel
theorem dX11_playTwo_69 : decode cX11_playTwo 69 = .ok (.aload_n 0, 1) := by decide +kernel
theorem dX11_playTwo_70 : decode cX11_playTwo 70 = .ok (.getfield 25, 3) := by decide +kernel
theorem dX11_playTwo_73 : decode cX11_playTwo 73 = .ok (.aload_n 0, 1) := by decide +kernel
theorem dX11_playTwo_74 : decode cX11_playTwo 74 = .ok (.getfield 10, 3) := by decide +kernel
theorem dX11_playTwo_77 : decode cX11_playTwo 77 = .ok (.aload_n 1, 1) := by decide +kernel
theorem dX11_playTwo_78 : decode cX11_playTwo 78 = .ok (.iload 7, 2) := by decide +kernel
theorem dX11_playTwo_80 : decode cX11_playTwo 80 = .ok (.invokevirtual 269, 3) := by decide +kernel
theorem dX11_playTwo_83 : decode cX11_playTwo 83 = .ok (.invokevirtual 62, 3) := by decide +kernel
theorem dX11_playTwo_86 : decode cX11_playTwo 86 = .ok (.invokevirtual 309, 3) := by decide +kernel
theorem dX11_playTwo_89 : decode cX11_playTwo 89 = .ok (.iload 7, 2) := by decide +kernel
theorem dX11_playTwo_91 : decode cX11_playTwo 91 = .ok (.aload_n 2, 1) := by decide +kernel
theorem dX11_playTwo_92 : decode cX11_playTwo 92 = .ok (.getfield 182, 3) := by decide +kernel
theorem dX11_playTwo_95 : decode cX11_playTwo 95 = .ok (.if_icmp .ge 43, 3) := by decide +kernel
theorem dX11_playTwo_98 : decode cX11_playTwo 98 = .ok (.iload 6, 2) := by decide +kernel
theorem dX11_playTwo_100 : decode cX11_playTwo 100 = .ok (.iload 4, 2) := by decide +kernel
theorem dX11_playTwo_102 : decode cX11_playTwo 102 = .ok (.iload 7, 2) := by decide +kernel
theorem dX11_playTwo_104 : decode cX11_playTwo 104 = .ok (.ishr, 1) := by decide +kernel
theorem dX11_playTwo_105 : decode cX11_playTwo 105 = .ok (.iconst 1, 1) := by decide +kernel
theorem dX11_playTwo_106 : decode cX11_playTwo 106 = .ok (.iand, 1) := by decide +kernel
theorem dX11_playTwo_107 : decode cX11_playTwo 107 = .ok (.aload_n 0, 1) := by decide +kernel
theorem dX11_playTwo_108 : decode cX11_playTwo 108 = .ok (.getfield 25, 3) := by decide +kernel
theorem dX11_playTwo_111 : decode cX11_playTwo 111 = .ok (.getfield 156, 3) := by decide +kernel
theorem dX11_playTwo_114 : decode cX11_playTwo 114 = .ok (.ishl, 1) := by decide +kernel
theorem dX11_playTwo_115 : decode cX11_playTwo 115 = .ok (.ior, 1) := by decide +kernel
theorem dX11_playTwo_116 : decode cX11_playTwo 116 = .ok (.istore 6, 2) := by decide +kernel
theorem dX11_playTwo_118 : decode cX11_playTwo 118 = .ok (.aload_n 0, 1) := by decide +kernel
theorem dX11_playTwo_119 : decode cX11_playTwo 119 = .ok (.getfield 25, 3) := by decide +kernel
theorem dX11_playTwo_122 : decode cX11_playTwo 122 = .ok (.aload_n 0, 1) := by decide +kernel
theorem dX11_playTwo_123 : decode cX11_playTwo 123 = .ok (.getfield 10, 3) := by decide +kernel
theorem dX11_playTwo_126 : decode cX11_playTwo 126 = .ok (.aload_n 2, 1) := by decide +kernel
theorem dX11_playTwo_127 : decode cX11_playTwo 127 = .ok (.iload 7, 2) := by decide +kernel
theorem dX11_playTwo_129 : decode cX11_playTwo 129 = .ok (.invokevirtual 269, 3) := by decide +kernel
theorem dX11_playTwo_132 : decode cX11_playTwo 132 = .ok (.invokevirtual 62, 3) := by decide +kernel
theorem dX11_playTwo_135 : decode cX11_playTwo 135 = .ok (.invokevirtual 309, 3) := by decide +kernel
theorem dX11_playTwo_138 : decode cX11_playTwo 138 = .ok (.iinc 7 1, 3) := by decide +kernel
theorem dX11_playTwo_141 : decode cX11_playTwo 141 = .ok (.goto (-121), 3) := by decide +kernel
theorem dX11_playTwo_144 : decode cX11_playTwo 144 = .ok (.aload_n 0, 1) := by decide +kernel
theorem dX11_playTwo_145 : decode cX11_playTwo 145 = .ok (.getfield 25, 3) := by decide +kernel
theorem dX11_playTwo_148 : decode cX11_playTwo 148 = .ok (.iload 6, 2) := by decide +kernel
theorem dX11_playTwo_150 : decode cX11_playTwo 150 = .ok (.invokevirtual 176, 3) := by decide +kernel
theorem dX11_playTwo_153 : decode cX11_playTwo 153 = .ok (.iload 5, 2) := by decide +kernel
theorem dX11_playTwo_155 : decode cX11_playTwo 155 = .ok (.ireturn, 1) := by decide +kernel
theorem dX11_playSeeds_0 : decode cX11_playSeeds 0 = .ok (.iconst 0, 1) := by decide +kernel
theorem dX11_playSeeds_1 : decode cX11_playSeeds 1 = .ok (.istore_n 3, 1) := by decide +kernel
theorem dX11_playSeeds_2 : decode cX11_playSeeds 2 = .ok (.iload_n 2, 1) := by decide +kernel
theorem dX11_playSeeds_3 : decode cX11_playSeeds 3 = .ok (.istore 4, 2) := by decide +kernel
theorem dX11_playSeeds_5 : decode cX11_playSeeds 5 = .ok (.aload_n 0, 1) := by decide +kernel
theorem dX11_playSeeds_6 : decode cX11_playSeeds 6 = .ok (.getfield 25, 3) := by decide +kernel
theorem dX11_playSeeds_9 : decode cX11_playSeeds 9 = .ok (.aload_n 0, 1) := by decide +kernel
theorem dX11_playSeeds_10 : decode cX11_playSeeds 10 = .ok (.getfield 10, 3) := by decide +kernel
theorem dX11_playSeeds_13 : decode cX11_playSeeds 13 = .ok (.getfield 94, 3) := by decide +kernel
theorem dX11_playSeeds_16 : decode cX11_playSeeds 16 = .ok (.aload_n 0, 1) := by decide +kernel
theorem dX11_playSeeds_17 : decode cX11_playSeeds 17 = .ok (.getfield 10, 3) := by decide +kernel
theorem dX11_playSeeds_20 : decode cX11_playSeeds 20 = .ok (.getfield 97, 3) := by decide +kernel
theorem dX11_playSeeds_23 : decode cX11_playSeeds 23 = .ok (.invokevirtual 145, 3) := by decide +kernel
theorem dX11_playSeeds_26 : decode cX11_playSeeds 26 = .ok (.iconst 0, 1) := by decide +kernel
theorem dX11_playSeeds_27 : decode cX11_playSeeds 27 = .ok (.istore 5, 2) := by decide +kernel
theorem dX11_playSeeds_29 : decode cX11_playSeeds 29 = .ok (.iload 5, 2) := by decide +kernel
theorem dX11_playSeeds_31 : decode cX11_playSeeds 31 = .ok (.iload_n 1, 1) := by decide +kernel
theorem dX11_playSeeds_32 : decode cX11_playSeeds 32 = .ok (.if_icmp .ge 150, 3) := by decide +kernel
theorem dX11_playSeeds_35 : decode cX11_playSeeds 35 = .ok (.aload_n 0, 1) := by decide +kernel
theorem dX11_playSeeds_36 : decode cX11_playSeeds 36 = .ok (.getfield 25, 3) := by decide +kernel
theorem dX11_playSeeds_39 : decode cX11_playSeeds 39 = .ok (.aload_n 0, 1) := by decide +kernel
theorem dX11_playSeeds_40 : decode cX11_playSeeds 40 = .ok (.getfield 10, 3) := by decide +kernel
theorem dX11_playSeeds_43 : decode cX11_playSeeds 43 = .ok (.invokevirtual 306, 3) := by decide +kernel
theorem dX11_playSeeds_46 : decode cX11_playSeeds 46 = .ok (.iload 4, 2) := by decide +kernel
theorem dX11_playSeeds_48 : decode cX11_playSeeds 48 = .ok (.invokestatic 357, 3) := by decide +kernel
theorem dX11_playSeeds_51 : decode cX11_playSeeds 51 = .ok (.istore 4, 2) := by decide +kernel
theorem dX11_playSeeds_53 : decode cX11_playSeeds 53 = .ok (.iconst 1, 1) := by decide +kernel
theorem dX11_playSeeds_54 : decode cX11_playSeeds 54 = .ok (.iload 4, 2) := by decide +kernel
theorem dX11_playSeeds_56 : decode cX11_playSeeds 56 = .ok (.iconst 4, 1) := by decide +kernel
theorem dX11_playSeeds_57 : decode cX11_playSeeds 57 = .ok (.invokestatic 360, 3) := by decide +kernel
theorem dX11_playSeeds_60 : decode cX11_playSeeds 60 = .ok (.iadd, 1) := by decide +kernel
theorem dX11_playSeeds_61 : decode cX11_playSeeds 61 = .ok (.istore 6, 2) := by decide +kernel
theorem dX11_playSeeds_63 : decode cX11_playSeeds 63 = .ok (.iconst 0, 1) := by decide +kernel
theorem dX11_playSeeds_64 : decode cX11_playSeeds 64 = .ok (.istore 7, 2) := by decide +kernel
theorem dX11_playSeeds_66 : decode cX11_playSeeds 66 = .ok (.iload 7, 2) := by decide +kernel
theorem dX11_playSeeds_68 : decode cX11_playSeeds 68 = .ok (.iload 6, 2) := by decide +kernel
theorem dX11_playSeeds_70 : decode cX11_playSeeds 70 = .ok (.if_icmp .ge 42, 3) := by decide +kernel
theorem dX11_playSeeds_73 : decode cX11_playSeeds 73 = .ok (.iload 4, 2) := by decide +kernel
theorem dX11_playSeeds_75 : decode cX11_playSeeds 75 = .ok (.invokestatic 357, 3) := by decide +kernel
theorem dX11_playSeeds_78 : decode cX11_playSeeds 78 = .ok (.istore 4, 2) := by decide +kernel
theorem dX11_playSeeds_80 : decode cX11_playSeeds 80 = .ok (.aload_n 0, 1) := by decide +kernel
theorem dX11_playSeeds_81 : decode cX11_playSeeds 81 = .ok (.getfield 25, 3) := by decide +kernel
theorem dX11_playSeeds_84 : decode cX11_playSeeds 84 = .ok (.aload_n 0, 1) := by decide +kernel
theorem dX11_playSeeds_85 : decode cX11_playSeeds 85 = .ok (.getfield 10, 3) := by decide +kernel
theorem dX11_playSeeds_88 : decode cX11_playSeeds 88 = .ok (.iload 4, 2) := by decide +kernel
theorem dX11_playSeeds_90 : decode cX11_playSeeds 90 = .ok (.aload_n 0, 1) := by decide +kernel
theorem dX11_playSeeds_91 : decode cX11_playSeeds 91 = .ok (.getfield 10, 3) := by decide +kernel
theorem dX11_playSeeds_94 : decode cX11_playSeeds 94 = .ok (.getfield 207, 3) := by decide +kernel
theorem dX11_playSeeds_97 : decode cX11_playSeeds 97 = .ok (.invokestatic 360, 3) := by decide +kernel
theorem dX11_playSeeds_100 : decode cX11_playSeeds 100 = .ok (.invokevirtual 62, 3) := by decide +kernel
theorem dX11_playSeeds_103 : decode cX11_playSeeds 103 = .ok (.invokevirtual 309, 3) := by decide +kernel
theorem dX11_playSeeds_106 : decode cX11_playSeeds 106 = .ok (.iinc 7 1, 3) := by decide +kernel
theorem dX11_playSeeds_109 : decode cX11_playSeeds 109 = .ok (.goto (-43), 3) := by decide +kernel
theorem dX11_playSeeds_112 : decode cX11_playSeeds 112 = .ok (.iload 4, 2) := by decide +kernel
theorem dX11_playSeeds_114 : decode cX11_playSeeds 114 = .ok (.invokestatic 357, 3) := by decide +kernel
theorem dX11_playSeeds_117 : decode cX11_playSeeds 117 = .ok (.istore 4, 2) := by decide +kernel
theorem dX11_playSeeds_119 : decode cX11_playSeeds 119 = .ok (.aload_n 0, 1) := by decide +kernel
theorem dX11_playSeeds_120 : decode cX11_playSeeds 120 = .ok (.getfield 25, 3) := by decide +kernel
theorem dX11_playSeeds_123 : decode cX11_playSeeds 123 = .ok (.aload_n 0, 1) := by decide +kernel
theorem dX11_playSeeds_124 : decode cX11_playSeeds 124 = .ok (.getfield 25, 3) := by decide +kernel
theorem dX11_playSeeds_127 : decode cX11_playSeeds 127 = .ok (.getfield 155, 3) := by decide +kernel
theorem dX11_playSeeds_130 : decode cX11_playSeeds 130 = .ok (.aload_n 0, 1) := by decide +kernel
theorem dX11_playSeeds_131 : decode cX11_playSeeds 131 = .ok (.getfield 25, 3) := by decide +kernel
theorem dX11_playSeeds_134 : decode cX11_playSeeds 134 = .ok (.getfield 162, 3) := by decide +kernel
theorem dX11_playSeeds_137 : decode cX11_playSeeds 137 = .ok (.invokevirtual 145, 3) := by decide +kernel
theorem dX11_playSeeds_140 : decode cX11_playSeeds 140 = .ok (.aload_n 0, 1) := by decide +kernel
theorem dX11_playSeeds_141 : decode cX11_playSeeds 141 = .ok (.getfield 25, 3) := by decide +kernel
theorem dX11_playSeeds_144 : decode cX11_playSeeds 144 = .ok (.iload 4, 2) := by decide +kernel
theorem dX11_playSeeds_146 : decode cX11_playSeeds 146 = .ok (.iconst 1, 1) := by decide +kernel
theorem dX11_playSeeds_147 : decode cX11_playSeeds 147 = .ok (.iload 6, 2) := by decide +kernel
theorem dX11_playSeeds_149 : decode cX11_playSeeds 149 = .ok (.ishl, 1) := by decide +kernel
theorem dX11_playSeeds_150 : decode cX11_playSeeds 150 = .ok (.invokestatic 360, 3) := by decide +kernel
theorem dX11_playSeeds_153 : decode cX11_playSeeds 153 = .ok (.invokevirtual 149, 3) := by decide +kernel
theorem dX11_playSeeds_156 : decode cX11_playSeeds 156 = .ok (.aload_n 0, 1) := by decide +kernel
theorem dX11_playSeeds_157 : decode cX11_playSeeds 157 = .ok (.getfield 25, 3) := by decide +kernel
theorem dX11_playSeeds_160 : decode cX11_playSeeds 160 = .ok (.invokevirtual 354, 3) := by decide +kernel
theorem dX11_playSeeds_163 : decode cX11_playSeeds 163 = .ok (.iload_n 3, 1) := by decide +kernel
theorem dX11_playSeeds_164 : decode cX11_playSeeds 164 = .ok (.aload_n 0, 1) := by decide +kernel
theorem dX11_playSeeds_165 : decode cX11_playSeeds 165 = .ok (.getfield 25, 3) := by decide +kernel
theorem dX11_playSeeds_168 : decode cX11_playSeeds 168 = .ok (.getfield 163, 3) := by decide +kernel
theorem dX11_playSeeds_171 : decode cX11_playSeeds 171 = .ok (.invokestatic 137, 3) := by decide +kernel
theorem dX11_playSeeds_174 : decode cX11_playSeeds 174 = .ok (.iadd, 1) := by decide +kernel
theorem dX11_playSeeds_175 : decode cX11_playSeeds 175 = .ok (.istore_n 3, 1) := by decide +kernel
theorem dX11_playSeeds_176 : decode cX11_playSeeds 176 = .ok (.iinc 5 1, 3) := by decide +kernel
theorem dX11_playSeeds_179 : decode cX11_playSeeds 179 = .ok (.goto (-150), 3) := by decide +kernel
theorem dX11_playSeeds_182 : decode cX11_playSeeds 182 = .ok (.iload_n 3, 1) := by decide +kernel
theorem dX11_playSeeds_183 : decode cX11_playSeeds 183 = .ok (.ireturn, 1) := by decide +kernel
theorem dX11_nextSeed_0 : decode cX11_nextSeed 0 = .ok (.iload_n 0, 1) := by decide +kernel
theorem dX11_nextSeed_1 : decode cX11_nextSeed 1 = .ok (.ldc_w 363, 3) := by decide +kernel
theorem dX11_nextSeed_4 : decode cX11_nextSeed 4 = .ok (.imul, 1) := by decide +kernel
theorem dX11_nextSeed_5 : decode cX11_nextSeed 5 = .ok (.sipush 12345, 3) := by decide +kernel
theorem dX11_nextSeed_8 : decode cX11_nextSeed 8 = .ok (.iadd, 1) := by decide +kernel
theorem dX11_nextSeed_9 : decode cX11_nextSeed 9 = .ok (.ireturn, 1) := by decide +kernel
theorem dX11_drawn_0 : decode cX11_drawn 0 = .ok (.iload_n 1, 1) := by decide +kernel
theorem dX11_drawn_1 : decode cX11_drawn 1 = .ok (.ifCond .gt 7, 3) := by decide +kernel
theorem dX11_drawn_4 : decode cX11_drawn 4 = .ok (.iconst 0, 1) := by decide +kernel
theorem dX11_drawn_5 : decode cX11_drawn 5 = .ok (.goto 14, 3) := by decide +kernel
theorem dX11_drawn_8 : decode cX11_drawn 8 = .ok (.iload_n 0, 1) := by decide +kernel
theorem dX11_drawn_9 : decode cX11_drawn 9 = .ok (.ldc_w 364, 3) := by decide +kernel
theorem dX11_drawn_12 : decode cX11_drawn 12 = .ok (.iand, 1) := by decide +kernel
theorem dX11_drawn_13 : decode cX11_drawn 13 = .ok (.ldc_w 365, 3) := by decide +kernel
theorem dX11_drawn_16 : decode cX11_drawn 16 = .ok (.idiv, 1) := by decide +kernel
theorem dX11_drawn_17 : decode cX11_drawn 17 = .ok (.iload_n 1, 1) := by decide +kernel
theorem dX11_drawn_18 : decode cX11_drawn 18 = .ok (.irem, 1) := by decide +kernel
theorem dX11_drawn_19 : decode cX11_drawn 19 = .ok (.ireturn, 1) := by decide +kernel
theorem dX11_firstWrong_0 : decode cX11_firstWrong 0 = .ok (.aload_n 0, 1) := by decide +kernel
theorem dX11_firstWrong_1 : decode cX11_firstWrong 1 = .ok (.getfield 25, 3) := by decide +kernel
theorem dX11_firstWrong_4 : decode cX11_firstWrong 4 = .ok (.aload_n 0, 1) := by decide +kernel
theorem dX11_firstWrong_5 : decode cX11_firstWrong 5 = .ok (.getfield 10, 3) := by decide +kernel
theorem dX11_firstWrong_8 : decode cX11_firstWrong 8 = .ok (.getfield 94, 3) := by decide +kernel
theorem dX11_firstWrong_11 : decode cX11_firstWrong 11 = .ok (.aload_n 0, 1) := by decide +kernel
theorem dX11_firstWrong_12 : decode cX11_firstWrong 12 = .ok (.getfield 10, 3) := by decide +kernel
theorem dX11_firstWrong_15 : decode cX11_firstWrong 15 = .ok (.getfield 97, 3) := by decide +kernel
theorem dX11_firstWrong_18 : decode cX11_firstWrong 18 = .ok (.invokevirtual 145, 3) := by decide +kernel
theorem dX11_firstWrong_21 : decode cX11_firstWrong 21 = .ok (.iconst 0, 1) := by decide +kernel
theorem dX11_firstWrong_22 : decode cX11_firstWrong 22 = .ok (.istore_n 3, 1) := by decide +kernel
theorem dX11_firstWrong_23 : decode cX11_firstWrong 23 = .ok (.iload_n 3, 1) := by decide +kernel
theorem dX11_firstWrong_24 : decode cX11_firstWrong 24 = .ok (.aload_n 1, 1) := by decide +kernel
theorem dX11_firstWrong_25 : decode cX11_firstWrong 25 = .ok (.getfield 182, 3) := by decide +kernel
theorem dX11_firstWrong_28 : decode cX11_firstWrong 28 = .ok (.if_icmp .ge 102, 3) := by decide +kernel
theorem dX11_firstWrong_31 : decode cX11_firstWrong 31 = .ok (.iload_n 3, 1) := by decide +kernel
theorem dX11_firstWrong_32 : decode cX11_firstWrong 32 = .ok (.aload_n 0, 1) := by decide +kernel
theorem dX11_firstWrong_33 : decode cX11_firstWrong 33 = .ok (.getfield 25, 3) := by decide +kernel
theorem dX11_firstWrong_36 : decode cX11_firstWrong 36 = .ok (.getfield 156, 3) := by decide +kernel
theorem dX11_firstWrong_39 : decode cX11_firstWrong 39 = .ok (.if_icmp .ge 15, 3) := by decide +kernel
theorem dX11_firstWrong_42 : decode cX11_firstWrong 42 = .ok (.aload_n 0, 1) := by decide +kernel
theorem dX11_firstWrong_43 : decode cX11_firstWrong 43 = .ok (.getfield 25, 3) := by decide +kernel
theorem dX11_firstWrong_46 : decode cX11_firstWrong 46 = .ok (.iload_n 3, 1) := by decide +kernel
theorem dX11_firstWrong_47 : decode cX11_firstWrong 47 = .ok (.iload_n 2, 1) := by decide +kernel
theorem dX11_firstWrong_48 : decode cX11_firstWrong 48 = .ok (.invokevirtual 366, 3) := by decide +kernel
theorem dX11_firstWrong_51 : decode cX11_firstWrong 51 = .ok (.goto 21, 3) := by decide +kernel
theorem dX11_firstWrong_54 : decode cX11_firstWrong 54 = .ok (.iload_n 3, 1) := by decide +kernel
theorem dX11_firstWrong_55 : decode cX11_firstWrong 55 = .ok (.aload_n 0, 1) := by decide +kernel
theorem dX11_firstWrong_56 : decode cX11_firstWrong 56 = .ok (.getfield 25, 3) := by decide +kernel
theorem dX11_firstWrong_59 : decode cX11_firstWrong 59 = .ok (.getfield 156, 3) := by decide +kernel
theorem dX11_firstWrong_62 : decode cX11_firstWrong 62 = .ok (.if_icmp .ne 10, 3) := by decide +kernel
theorem dX11_firstWrong_65 : decode cX11_firstWrong 65 = .ok (.aload_n 0, 1) := by decide +kernel
theorem dX11_firstWrong_66 : decode cX11_firstWrong 66 = .ok (.getfield 25, 3) := by decide +kernel
theorem dX11_firstWrong_69 : decode cX11_firstWrong 69 = .ok (.invokevirtual 354, 3) := by decide +kernel
theorem dX11_firstWrong_72 : decode cX11_firstWrong 72 = .ok (.iload_n 3, 1) := by decide +kernel
theorem dX11_firstWrong_73 : decode cX11_firstWrong 73 = .ok (.aload_n 0, 1) := by decide +kernel
theorem dX11_firstWrong_74 : decode cX11_firstWrong 74 = .ok (.getfield 25, 3) := by decide +kernel
theorem dX11_firstWrong_77 : decode cX11_firstWrong 77 = .ok (.getfield 156, 3) := by decide +kernel
theorem dX11_firstWrong_80 : decode cX11_firstWrong 80 = .ok (.if_icmp .gt 22, 3) := by decide +kernel
theorem dX11_firstWrong_83 : decode cX11_firstWrong 83 = .ok (.aload_n 1, 1) := by decide +kernel
theorem dX11_firstWrong_84 : decode cX11_firstWrong 84 = .ok (.iload_n 3, 1) := by decide +kernel
theorem dX11_firstWrong_85 : decode cX11_firstWrong 85 = .ok (.invokevirtual 269, 3) := by decide +kernel
theorem dX11_firstWrong_88 : decode cX11_firstWrong 88 = .ok (.aload_n 0, 1) := by decide +kernel
theorem dX11_firstWrong_89 : decode cX11_firstWrong 89 = .ok (.getfield 25, 3) := by decide +kernel
theorem dX11_firstWrong_92 : decode cX11_firstWrong 92 = .ok (.getfield 155, 3) := by decide +kernel
theorem dX11_firstWrong_95 : decode cX11_firstWrong 95 = .ok (.if_icmp .ne 7, 3) := by decide +kernel
theorem dX11_firstWrong_98 : decode cX11_firstWrong 98 = .ok (.iconst 1, 1) := by decide +kernel
theorem dX11_firstWrong_99 : decode cX11_firstWrong 99 = .ok (.goto 4, 3) := by decide +kernel
theorem dX11_firstWrong_102 : decode cX11_firstWrong 102 = .ok (.iconst 0, 1) := by decide +kernel
theorem dX11_firstWrong_103 : decode cX11_firstWrong 103 = .ok (.istore 4, 2) := by decide +kernel
theorem dX11_firstWrong_105 : decode cX11_firstWrong 105 = .ok (.iload 4, 2) := by decide +kernel
theorem dX11_firstWrong_107 : decode cX11_firstWrong 107 = .ok (.ifCond .ne 17, 3) := by decide +kernel
theorem dX11_firstWrong_110 : decode cX11_firstWrong 110 = .ok (.aload_n 1, 1) := by decide +kernel
theorem dX11_firstWrong_111 : decode cX11_firstWrong 111 = .ok (.iload_n 3, 1) := by decide +kernel
theorem dX11_firstWrong_112 : decode cX11_firstWrong 112 = .ok (.invokevirtual 269, 3) := by decide +kernel
theorem dX11_firstWrong_115 : decode cX11_firstWrong 115 = .ok (.aload_n 1, 1) := by decide +kernel
theorem dX11_firstWrong_116 : decode cX11_firstWrong 116 = .ok (.invokevirtual 369, 3) := by decide +kernel
theorem dX11_firstWrong_119 : decode cX11_firstWrong 119 = .ok (.if_icmp .eq 5, 3) := by decide +kernel
theorem dX11_firstWrong_122 : decode cX11_firstWrong 122 = .ok (.iload_n 3, 1) := by decide +kernel
theorem dX11_firstWrong_123 : decode cX11_firstWrong 123 = .ok (.ireturn, 1) := by decide +kernel
theorem dX11_firstWrong_124 : decode cX11_firstWrong 124 = .ok (.iinc 3 1, 3) := by decide +kernel
theorem dX11_firstWrong_127 : decode cX11_firstWrong 127 = .ok (.goto (-104), 3) := by decide +kernel
theorem dX11_firstWrong_130 : decode cX11_firstWrong 130 = .ok (.bipush (-4), 2) := by decide +kernel
theorem dX11_firstWrong_132 : decode cX11_firstWrong 132 = .ok (.ireturn, 1) := by decide +kernel
theorem dX11_at_0 : decode cX11_at 0 = .ok (.iload_n 1, 1) := by decide +kernel
theorem dX11_at_1 : decode cX11_at 1 = .ok (.ifCond .lt 15, 3) := by decide +kernel
theorem dX11_at_4 : decode cX11_at 4 = .ok (.iload_n 1, 1) := by decide +kernel
theorem dX11_at_5 : decode cX11_at 5 = .ok (.aload_n 0, 1) := by decide +kernel
theorem dX11_at_6 : decode cX11_at 6 = .ok (.arraylength, 1) := by decide +kernel
theorem dX11_at_7 : decode cX11_at 7 = .ok (.if_icmp .ge 9, 3) := by decide +kernel
theorem dX11_at_10 : decode cX11_at 10 = .ok (.aload_n 0, 1) := by decide +kernel
theorem dX11_at_11 : decode cX11_at 11 = .ok (.iload_n 1, 1) := by decide +kernel
theorem dX11_at_12 : decode cX11_at 12 = .ok (.iaload, 1) := by decide +kernel
theorem dX11_at_13 : decode cX11_at 13 = .ok (.goto 4, 3) := by decide +kernel
theorem dX11_at_16 : decode cX11_at 16 = .ok (.iconst 0, 1) := by decide +kernel
theorem dX11_at_17 : decode cX11_at 17 = .ok (.ireturn, 1) := by decide +kernel
theorem dX11_store_0 : decode cX11_store 0 = .ok (.iload_n 1, 1) := by decide +kernel
theorem dX11_store_1 : decode cX11_store 1 = .ok (.ifCond .lt 13, 3) := by decide +kernel
theorem dX11_store_4 : decode cX11_store 4 = .ok (.iload_n 1, 1) := by decide +kernel
theorem dX11_store_5 : decode cX11_store 5 = .ok (.aload_n 0, 1) := by decide +kernel
theorem dX11_store_6 : decode cX11_store 6 = .ok (.arraylength, 1) := by decide +kernel
theorem dX11_store_7 : decode cX11_store 7 = .ok (.if_icmp .ge 7, 3) := by decide +kernel
theorem dX11_store_10 : decode cX11_store 10 = .ok (.aload_n 0, 1) := by decide +kernel
theorem dX11_store_11 : decode cX11_store 11 = .ok (.iload_n 1, 1) := by decide +kernel
theorem dX11_store_12 : decode cX11_store 12 = .ok (.iload_n 2, 1) := by decide +kernel
theorem dX11_store_13 : decode cX11_store 13 = .ok (.iastore, 1) := by decide +kernel
theorem dX11_store_14 : decode cX11_store 14 = .ok (.return_, 1) := by decide +kernel
end
section
theorem dX12_init_0 : decode cX12_init 0 = .ok (.aload_n 0, 1) := by decide +kernel
theorem dX12_init_1 : decode cX12_init 1 = .ok (.invokespecial 1, 3) := by decide +kernel
theorem dX12_init_4 : decode cX12_init 4 = .ok (.aload_n 0, 1) := by decide +kernel
theorem dX12_init_5 : decode cX12_init 5 = .ok (.bipush 47, 2) := by decide +kernel
theorem dX12_init_7 : decode cX12_init 7 = .ok (.newarray .int, 2) := by decide +kernel
theorem dX12_init_9 : decode cX12_init 9 = .ok (.putfield 9, 3) := by decide +kernel
theorem dX12_init_12 : decode cX12_init 12 = .ok (.aload_n 0, 1) := by decide +kernel
theorem dX12_init_13 : decode cX12_init 13 = .ok (.bipush 47, 2) := by decide +kernel
theorem dX12_init_15 : decode cX12_init 15 = .ok (.newarray .int, 2) := by decide +kernel
theorem dX12_init_17 : decode cX12_init 17 = .ok (.putfield 13, 3) := by decide +kernel
theorem dX12_init_20 : decode cX12_init 20 = .ok (.aload_n 0, 1) := by decide +kernel
theorem dX12_init_21 : decode cX12_init 21 = .ok (.bipush 47, 2) := by decide +kernel
theorem dX12_init_23 : decode cX12_init 23 = .ok (.newarray .int, 2) := by decide +kernel
theorem dX12_init_25 : decode cX12_init 25 = .ok (.putfield 16, 3) := by decide +kernel
theorem dX12_init_28 : decode cX12_init 28 = .ok (.aload_n 0, 1) := by decide +kernel
theorem dX12_init_29 : decode cX12_init 29 = .ok (.bipush 8, 2) := by decide +kernel
theorem dX12_init_31 : decode cX12_init 31 = .ok (.newarray .int, 2) := by decide +kernel
theorem dX12_init_33 : decode cX12_init 33 = .ok (.putfield 19, 3) := by decide +kernel
theorem dX12_init_36 : decode cX12_init 36 = .ok (.aload_n 0, 1) := by decide +kernel
theorem dX12_init_37 : decode cX12_init 37 = .ok (.bipush 8, 2) := by decide +kernel
theorem dX12_init_39 : decode cX12_init 39 = .ok (.newarray .int, 2) := by decide +kernel
theorem dX12_init_41 : decode cX12_init 41 = .ok (.putfield 22, 3) := by decide +kernel
theorem dX12_init_44 : decode cX12_init 44 = .ok (.aload_n 0, 1) := by decide +kernel
theorem dX12_init_45 : decode cX12_init 45 = .ok (.bipush 8, 2) := by decide +kernel
theorem dX12_init_47 : decode cX12_init 47 = .ok (.newarray .int, 2) := by decide +kernel
theorem dX12_init_49 : decode cX12_init 49 = .ok (.putfield 25, 3) := by decide +kernel
theorem dX12_init_52 : decode cX12_init 52 = .ok (.aload_n 0, 1) := by decide +kernel
theorem dX12_init_53 : decode cX12_init 53 = .ok (.sipush 800, 3) := by decide +kernel
theorem dX12_init_56 : decode cX12_init 56 = .ok (.newarray .int, 2) := by decide +kernel
theorem dX12_init_58 : decode cX12_init 58 = .ok (.putfield 28, 3) := by decide +kernel
theorem dX12_init_61 : decode cX12_init 61 = .ok (.aload_n 0, 1) := by decide +kernel
theorem dX12_init_62 : decode cX12_init 62 = .ok (.bipush 8, 2) := by decide +kernel
theorem dX12_init_64 : decode cX12_init 64 = .ok (.newarray .int, 2) := by decide +kernel
theorem dX12_init_66 : decode cX12_init 66 = .ok (.putfield 31, 3) := by decide +kernel
theorem dX12_init_69 : decode cX12_init 69 = .ok (.aload_n 0, 1) := by decide +kernel
theorem dX12_init_70 : decode cX12_init 70 = .ok (.bipush 8, 2) := by decide +kernel
theorem dX12_init_72 : decode cX12_init 72 = .ok (.newarray .int, 2) := by decide +kernel
theorem dX12_init_74 : decode cX12_init 74 = .ok (.putfield 34, 3) := by decide +kernel
theorem dX12_init_77 : decode cX12_init 77 = .ok (.aload_n 0, 1) := by decide +kernel
theorem dX12_init_78 : decode cX12_init 78 = .ok (.iconst 3, 1) := by decide +kernel
theorem dX12_init_79 : decode cX12_init 79 = .ok (.newarray .int, 2) := by decide +kernel
theorem dX12_init_81 : decode cX12_init 81 = .ok (.putfield 37, 3) := by decide +kernel
theorem dX12_init_84 : decode cX12_init 84 = .ok (.aload_n 0, 1) := by decide +kernel
theorem dX12_init_85 : decode cX12_init 85 = .ok (.bipush 16, 2) := by decide +kernel
theorem dX12_init_87 : decode cX12_init 87 = .ok (.newarray .int, 2) := by decide +kernel
theorem dX12_init_89 : decode cX12_init 89 = .ok (.putfield 40, 3) := by decide +kernel
theorem dX12_init_92 : decode cX12_init 92 = .ok (.aload_n 0, 1) := by decide +kernel
theorem dX12_init_93 : decode cX12_init 93 = .ok (.bipush 16, 2) := by decide +kernel
theorem dX12_init_95 : decode cX12_init 95 = .ok (.newarray .int, 2) := by decide +kernel
theorem dX12_init_97 : decode cX12_init 97 = .ok (.putfield 43, 3) := by decide +kernel
theorem dX12_init_100 : decode cX12_init 100 = .ok (.aload_n 0, 1) := by decide +kernel
theorem dX12_init_101 : decode cX12_init 101 = .ok (.bipush 16, 2) := by decide +kernel
theorem dX12_init_103 : decode cX12_init 103 = .ok (.newarray .int, 2) := by decide +kernel
theorem dX12_init_105 : decode cX12_init 105 = .ok (.putfield 46, 3) := by decide +kernel
theorem dX12_init_108 : decode cX12_init 108 = .ok (.aload_n 0, 1) := by decide +kernel
theorem dX12_init_109 : decode cX12_init 109 = .ok (.bipush 16, 2) := by decide +kernel
theorem dX12_init_111 : decode cX12_init 111 = .ok (.newarray .int, 2) := by decide +kernel
theorem dX12_init_113 : decode cX12_init 113 = .ok (.putfield 49, 3) := by decide +kernel
theorem dX12_init_116 : decode cX12_init 116 = .ok (.aload_n 0, 1) := by decide +kernel
theorem dX12_init_117 : decode cX12_init 117 = .ok (.bipush 16, 2) := by decide +kernel
theorem dX12_init_119 : decode cX12_init 119 = .ok (.newarray .int, 2) := by decide +kernel
theorem dX12_init_121 : decode cX12_init 121 = .ok (.putfield 52, 3) := by decide +kernel
theorem dX12_init_124 : decode cX12_init 124 = .ok (.aload_n 0, 1) := by decide +kernel
theorem dX12_init_125 : decode cX12_init 125 = .ok (.iconst 5, 1) := by decide +kernel
theorem dX12_init_126 : decode cX12_init 126 = .ok (.newarray .int, 2) := by decide +kernel
theorem dX12_init_128 : decode cX12_init 128 = .ok (.putfield 55, 3) := by decide +kernel
theorem dX12_init_131 : decode cX12_init 131 = .ok (.aload_n 0, 1) := by decide +kernel
theorem dX12_init_132 : decode cX12_init 132 = .ok (.bipush 16, 2) := by decide +kernel
theorem dX12_init_134 : decode cX12_init 134 = .ok (.newarray .int, 2) := by decide +kernel
theorem dX12_init_136 : decode cX12_init 136 = .ok (.putfield 58, 3) := by decide +kernel
theorem dX12_init_139 : decode cX12_init 139 = .ok (.aload_n 0, 1) := by decide +kernel
theorem dX12_init_140 : decode cX12_init 140 = .ok (.getfield 9, 3) := by decide +kernel
theorem dX12_init_143 : decode cX12_init 143 = .ok (.iconst 1, 1) := by decide +kernel
theorem dX12_init_144 : decode cX12_init 144 = .ok (.bipush 100, 2) := by decide +kernel
theorem dX12_init_146 : decode cX12_init 146 = .ok (.iastore, 1) := by decide +kernel
theorem dX12_init_147 : decode cX12_init 147 = .ok (.aload_n 0, 1) := by decide +kernel
theorem dX12_init_148 : decode cX12_init 148 = .ok (.getfield 9, 3) := by decide +kernel
theorem dX12_init_151 : decode cX12_init 151 = .ok (.iconst 4, 1) := by decide +kernel
theorem dX12_init_152 : decode cX12_init 152 = .ok (.bipush 10, 2) := by decide +kernel
theorem dX12_init_154 : decode cX12_init 154 = .ok (.iastore, 1) := by decide +kernel
theorem dX12_init_155 : decode cX12_init 155 = .ok (.return_, 1) := by decide +kernel
theorem dX12_thrown_0 : decode cX12_thrown 0 = .ok (.aload_n 0, 1) := by decide +kernel
theorem dX12_thrown_1 : decode cX12_thrown 1 = .ok (.getfield 61, 3) := by decide +kernel
theorem dX12_thrown_4 : decode cX12_thrown 4 = .ok (.ireturn, 1) := by decide +kernel
theorem dX12_isIn_0 : decode cX12_isIn 0 = .ok (.lload_n 0, 1) := by decide +kernel
theorem dX12_isIn_1 : decode cX12_isIn 1 = .ok (.lload_n 2, 1) := by decide +kernel
theorem dX12_isIn_2 : decode cX12_isIn 2 = .ok (.lcmp, 1) := by decide +kernel
theorem dX12_isIn_3 : decode cX12_isIn 3 = .ok (.ifCond .lt 14, 3) := by decide +kernel
theorem dX12_isIn_6 : decode cX12_isIn 6 = .ok (.lload_n 0, 1) := by decide +kernel
theorem dX12_isIn_7 : decode cX12_isIn 7 = .ok (.lload 4, 2) := by decide +kernel
theorem dX12_isIn_9 : decode cX12_isIn 9 = .ok (.lcmp, 1) := by decide +kernel
theorem dX12_isIn_10 : decode cX12_isIn 10 = .ok (.ifCond .gt 7, 3) := by decide +kernel
theorem dX12_isIn_13 : decode cX12_isIn 13 = .ok (.iconst 1, 1) := by decide +kernel
theorem dX12_isIn_14 : decode cX12_isIn 14 = .ok (.goto 4, 3) := by decide +kernel
theorem dX12_isIn_17 : decode cX12_isIn 17 = .ok (.iconst 0, 1) := by decide +kernel
theorem dX12_isIn_18 : decode cX12_isIn 18 = .ok (.ireturn, 1) := by decide +kernel
theorem dX12_isDeed_0 : decode cX12_isDeed 0 = .ok (.iload_n 1, 1) := by decide +kernel
theorem dX12_isDeed_1 : decode cX12_isDeed 1 = .ok (.i2l, 1) := by decide +kernel
theorem dX12_isDeed_2 : decode cX12_isDeed 2 = .ok (.lconst 0, 1) := by decide +kernel
theorem dX12_isDeed_3 : decode cX12_isDeed 3 = .ok (.aload_n 0, 1) := by decide +kernel
theorem dX12_isDeed_4 : decode cX12_isDeed 4 = .ok (.getfield 9, 3) := by decide +kernel
theorem dX12_isDeed_7 : decode cX12_isDeed 7 = .ok (.bipush 6, 2) := by decide +kernel
theorem dX12_isDeed_9 : decode cX12_isDeed 9 = .ok (.iaload, 1) := by decide +kernel
theorem dX12_isDeed_10 : decode cX12_isDeed 10 = .ok (.iconst 1, 1) := by decide +kernel
theorem dX12_isDeed_11 : decode cX12_isDeed 11 = .ok (.isub, 1) := by decide +kernel
theorem dX12_isDeed_12 : decode cX12_isDeed 12 = .ok (.i2l, 1) := by decide +kernel
theorem dX12_isDeed_13 : decode cX12_isDeed 13 = .ok (.invokestatic 65, 3) := by decide +kernel
theorem dX12_isDeed_16 : decode cX12_isDeed 16 = .ok (.ireturn, 1) := by decide +kernel
theorem dX12_isShelf_0 : decode cX12_isShelf 0 = .ok (.iload_n 0, 1) := by decide +kernel
theorem dX12_isShelf_1 : decode cX12_isShelf 1 = .ok (.i2l, 1) := by decide +kernel
theorem dX12_isShelf_2 : decode cX12_isShelf 2 = .ok (.lconst 0, 1) := by decide +kernel
theorem dX12_isShelf_3 : decode cX12_isShelf 3 = .ok (.ldc2_w 69, 3) := by decide +kernel
theorem dX12_isShelf_6 : decode cX12_isShelf 6 = .ok (.invokestatic 65, 3) := by decide +kernel
theorem dX12_isShelf_9 : decode cX12_isShelf 9 = .ok (.ireturn, 1) := by decide +kernel
theorem dX12_isMark_0 : decode cX12_isMark 0 = .ok (.iload_n 0, 1) := by decide +kernel
theorem dX12_isMark_1 : decode cX12_isMark 1 = .ok (.i2l, 1) := by decide +kernel
theorem dX12_isMark_2 : decode cX12_isMark 2 = .ok (.lconst 0, 1) := by decide +kernel
theorem dX12_isMark_3 : decode cX12_isMark 3 = .ok (.ldc2_w 71, 3) := by decide +kernel
theorem dX12_isMark_6 : decode cX12_isMark 6 = .ok (.invokestatic 65, 3) := by decide +kernel
theorem dX12_isMark_9 : decode cX12_isMark 9 = .ok (.ireturn, 1) := by decide +kernel
theorem dX12_get_0 : decode cX12_get 0 = .ok (.aload_n 0, 1) := by decide +kernel
theorem dX12_get_1 : decode cX12_get 1 = .ok (.getfield 9, 3) := by decide +kernel
theorem dX12_get_4 : decode cX12_get 4 = .ok (.bipush 7, 2) := by decide +kernel
theorem dX12_get_6 : decode cX12_get 6 = .ok (.iconst 5, 1) := by decide +kernel
theorem dX12_get_7 : decode cX12_get 7 = .ok (.iload_n 1, 1) := by decide +kernel
theorem dX12_get_8 : decode cX12_get 8 = .ok (.imul, 1) := by decide +kernel
theorem dX12_get_9 : decode cX12_get 9 = .ok (.iadd, 1) := by decide +kernel
theorem dX12_get_10 : decode cX12_get 10 = .ok (.iload_n 2, 1) := by decide +kernel
theorem dX12_get_11 : decode cX12_get 11 = .ok (.iadd, 1) := by decide +kernel
theorem dX12_get_12 : decode cX12_get 12 = .ok (.iaload, 1) := by decide +kernel
theorem dX12_get_13 : decode cX12_get 13 = .ok (.ireturn, 1) := by decide +kernel
theorem dX12_bits_0 : decode cX12_bits 0 = .ok (.iconst 0, 1) := by decide +kernel
theorem dX12_bits_1 : decode cX12_bits 1 = .ok (.istore_n 1, 1) := by decide +kernel
theorem dX12_bits_2 : decode cX12_bits 2 = .ok (.iload_n 0, 1) := by decide +kernel
theorem dX12_bits_3 : decode cX12_bits 3 = .ok (.istore_n 2, 1) := by decide +kernel
theorem dX12_bits_4 : decode cX12_bits 4 = .ok (.iload_n 2, 1) := by decide +kernel
theorem dX12_bits_5 : decode cX12_bits 5 = .ok (.ifCond .le 16, 3) := by decide +kernel
theorem dX12_bits_8 : decode cX12_bits 8 = .ok (.iload_n 1, 1) := by decide +kernel
theorem dX12_bits_9 : decode cX12_bits 9 = .ok (.iload_n 2, 1) := by decide +kernel
theorem dX12_bits_10 : decode cX12_bits 10 = .ok (.iconst 1, 1) := by decide +kernel
theorem dX12_bits_11 : decode cX12_bits 11 = .ok (.iand, 1) := by decide +kernel
theorem dX12_bits_12 : decode cX12_bits 12 = .ok (.iadd, 1) := by decide +kernel
theorem dX12_bits_13 : decode cX12_bits 13 = .ok (.istore_n 1, 1) := by decide +kernel
theorem dX12_bits_14 : decode cX12_bits 14 = .ok (.iload_n 2, 1) := by decide +kernel
theorem dX12_bits_15 : decode cX12_bits 15 = .ok (.iconst 1, 1) := by decide +kernel
theorem dX12_bits_16 : decode cX12_bits 16 = .ok (.ishr, 1) := by decide +kernel
theorem dX12_bits_17 : decode cX12_bits 17 = .ok (.istore_n 2, 1) := by decide +kernel
theorem dX12_bits_18 : decode cX12_bits 18 = .ok (.goto (-14), 3) := by decide +kernel
theorem dX12_bits_21 : decode cX12_bits 21 = .ok (.iload_n 1, 1) := by decide +kernel
theorem dX12_bits_22 : decode cX12_bits 22 = .ok (.ireturn, 1) := by decide +kernel
theorem dX12_here_0 : decode cX12_here 0 = .ok (.aload_n 0, 1) := by decide +kernel
theorem dX12_here_1 : decode cX12_here 1 = .ok (.getfield 73, 3) := by decide +kernel
theorem dX12_here_4 : decode cX12_here 4 = .ok (.aload_n 0, 1) := by decide +kernel
theorem dX12_here_5 : decode cX12_here 5 = .ok (.getfield 76, 3) := by decide +kernel
theorem dX12_here_8 : decode cX12_here 8 = .ok (.if_icmp .ge 20, 3) := by decide +kernel
theorem dX12_here_11 : decode cX12_here 11 = .ok (.aload_n 0, 1) := by decide +kernel
theorem dX12_here_12 : decode cX12_here 12 = .ok (.getfield 28, 3) := by decide +kernel
theorem dX12_here_15 : decode cX12_here 15 = .ok (.aload_n 0, 1) := by decide +kernel
theorem dX12_here_16 : decode cX12_here 16 = .ok (.getfield 79, 3) := by decide +kernel
theorem dX12_here_19 : decode cX12_here 19 = .ok (.aload_n 0, 1) := by decide +kernel
theorem dX12_here_20 : decode cX12_here 20 = .ok (.getfield 73, 3) := by decide +kernel
theorem dX12_here_23 : decode cX12_here 23 = .ok (.iadd, 1) := by decide +kernel
theorem dX12_here_24 : decode cX12_here 24 = .ok (.iaload, 1) := by decide +kernel
theorem dX12_here_25 : decode cX12_here 25 = .ok (.goto 6, 3) := by decide +kernel
theorem dX12_here_28 : decode cX12_here 28 = .ok (.sipush (-1000), 3) := by decide +kernel
theorem dX12_here_31 : decode cX12_here 31 = .ok (.ireturn, 1) := by decide +kernel
theorem dX12_isDigit_0 : decode cX12_isDigit 0 = .ok (.aload_n 0, 1) := by decide +kernel
theorem dX12_isDigit_1 : decode cX12_isDigit 1 = .ok (.invokevirtual 82, 3) := by decide +kernel
theorem dX12_isDigit_4 : decode cX12_isDigit 4 = .ok (.i2l, 1) := by decide +kernel
theorem dX12_isDigit_5 : decode cX12_isDigit 5 = .ok (.ldc2_w 86, 3) := by decide +kernel
theorem dX12_isDigit_8 : decode cX12_isDigit 8 = .ok (.ldc2_w 88, 3) := by decide +kernel
theorem dX12_isDigit_11 : decode cX12_isDigit 11 = .ok (.invokestatic 65, 3) := by decide +kernel
theorem dX12_isDigit_14 : decode cX12_isDigit 14 = .ok (.ireturn, 1) := by decide +kernel
theorem dX12_takes_0 : decode cX12_takes 0 = .ok (.aload_n 0, 1) := by decide +kernel
theorem dX12_takes_1 : decode cX12_takes 1 = .ok (.invokevirtual 82, 3) := by decide +kernel
theorem dX12_takes_4 : decode cX12_takes 4 = .ok (.iload_n 1, 1) := by decide +kernel
theorem dX12_takes_5 : decode cX12_takes 5 = .ok (.if_icmp .eq 5, 3) := by decide +kernel
theorem dX12_takes_8 : decode cX12_takes 8 = .ok (.iconst 0, 1) := by decide +kernel
theorem dX12_takes_9 : decode cX12_takes 9 = .ok (.ireturn, 1) := by decide +kernel
theorem dX12_takes_10 : decode cX12_takes 10 = .ok (.aload_n 0, 1) := by decide +kernel
theorem dX12_takes_11 : decode cX12_takes 11 = .ok (.dup, 1) := by decide +kernel
theorem dX12_takes_12 : decode cX12_takes 12 = .ok (.getfield 73, 3) := by decide +kernel
theorem dX12_takes_15 : decode cX12_takes 15 = .ok (.iconst 1, 1) := by decide +kernel
theorem dX12_takes_16 : decode cX12_takes 16 = .ok (.iadd, 1) := by decide +kernel
theorem dX12_takes_17 : decode cX12_takes 17 = .ok (.putfield 73, 3) := by decide +kernel
theorem dX12_takes_20 : decode cX12_takes 20 = .ok (.iconst 1, 1) := by decide +kernel
theorem dX12_takes_21 : decode cX12_takes 21 = .ok (.ireturn, 1) := by decide +kernel
theorem dX12_readsNumber_0 : decode cX12_readsNumber 0 = .ok (.aload_n 0, 1) := by decide +kernel
theorem dX12_readsNumber_1 : decode cX12_readsNumber 1 = .ok (.invokevirtual 90, 3) := by decide +kernel
theorem dX12_readsNumber_4 : decode cX12_readsNumber 4 = .ok (.ifCond .ne 5, 3) := by decide +kernel
theorem dX12_readsNumber_7 : decode cX12_readsNumber 7 = .ok (.iconst 0, 1) := by decide +kernel
theorem dX12_readsNumber_8 : decode cX12_readsNumber 8 = .ok (.ireturn, 1) := by decide +kernel
theorem dX12_readsNumber_9 : decode cX12_readsNumber 9 = .ok (.aload_n 0, 1) := by decide +kernel
theorem dX12_readsNumber_10 : decode cX12_readsNumber 10 = .ok (.invokevirtual 82, 3) := by decide +kernel
theorem dX12_readsNumber_13 : decode cX12_readsNumber 13 = .ok (.bipush 48, 2) := by decide +kernel
theorem dX12_readsNumber_15 : decode cX12_readsNumber 15 = .ok (.isub, 1) := by decide +kernel
theorem dX12_readsNumber_16 : decode cX12_readsNumber 16 = .ok (.istore_n 2, 1) := by decide +kernel
theorem dX12_readsNumber_17 : decode cX12_readsNumber 17 = .ok (.aload_n 0, 1) := by decide +kernel
theorem dX12_readsNumber_18 : decode cX12_readsNumber 18 = .ok (.dup, 1) := by decide +kernel
theorem dX12_readsNumber_19 : decode cX12_readsNumber 19 = .ok (.getfield 73, 3) := by decide +kernel
theorem dX12_readsNumber_22 : decode cX12_readsNumber 22 = .ok (.iconst 1, 1) := by decide +kernel
theorem dX12_readsNumber_23 : decode cX12_readsNumber 23 = .ok (.iadd, 1) := by decide +kernel
theorem dX12_readsNumber_24 : decode cX12_readsNumber 24 = .ok (.putfield 73, 3) := by decide +kernel
theorem dX12_readsNumber_27 : decode cX12_readsNumber 27 = .ok (.iconst 1, 1) := by decide +kernel
theorem dX12_readsNumber_28 : decode cX12_readsNumber 28 = .ok (.istore_n 3, 1) := by decide +kernel
theorem dX12_readsNumber_29 : decode cX12_readsNumber 29 = .ok (.iload_n 3, 1) := by decide +kernel
theorem dX12_readsNumber_30 : decode cX12_readsNumber 30 = .ok (.iload_n 1, 1) := by decide +kernel
theorem dX12_readsNumber_31 : decode cX12_readsNumber 31 = .ok (.if_icmp .ge 43, 3) := by decide +kernel
theorem dX12_readsNumber_34 : decode cX12_readsNumber 34 = .ok (.iload_n 2, 1) := by decide +kernel
theorem dX12_readsNumber_35 : decode cX12_readsNumber 35 = .ok (.ifCond .le 39, 3) := by decide +kernel
theorem dX12_readsNumber_38 : decode cX12_readsNumber 38 = .ok (.aload_n 0, 1) := by decide +kernel
theorem dX12_readsNumber_39 : decode cX12_readsNumber 39 = .ok (.invokevirtual 90, 3) := by decide +kernel
theorem dX12_readsNumber_42 : decode cX12_readsNumber 42 = .ok (.ifCond .eq 32, 3) := by decide +kernel
theorem dX12_readsNumber_45 : decode cX12_readsNumber 45 = .ok (.bipush 10, 2) := by decide +kernel
theorem dX12_readsNumber_47 : decode cX12_readsNumber 47 = .ok (.iload_n 2, 1) := by decide +kernel
theorem dX12_readsNumber_48 : decode cX12_readsNumber 48 = .ok (.imul, 1) := by decide +kernel
theorem dX12_readsNumber_49 : decode cX12_readsNumber 49 = .ok (.aload_n 0, 1) := by decide +kernel
theorem dX12_readsNumber_50 : decode cX12_readsNumber 50 = .ok (.invokevirtual 82, 3) := by decide +kernel
theorem dX12_readsNumber_53 : decode cX12_readsNumber 53 = .ok (.iadd, 1) := by decide +kernel
theorem dX12_readsNumber_54 : decode cX12_readsNumber 54 = .ok (.bipush 48, 2) := by decide +kernel
theorem dX12_readsNumber_56 : decode cX12_readsNumber 56 = .ok (.isub, 1) := by decide +kernel
theorem dX12_readsNumber_57 : decode cX12_readsNumber 57 = .ok (.istore_n 2, 1) := by decide +kernel
theorem dX12_readsNumber_58 : decode cX12_readsNumber 58 = .ok (.aload_n 0, 1) := by decide +kernel
theorem dX12_readsNumber_59 : decode cX12_readsNumber 59 = .ok (.dup, 1) := by decide +kernel
theorem dX12_readsNumber_60 : decode cX12_readsNumber 60 = .ok (.getfield 73, 3) := by decide +kernel
theorem dX12_readsNumber_63 : decode cX12_readsNumber 63 = .ok (.iconst 1, 1) := by decide +kernel
theorem dX12_readsNumber_64 : decode cX12_readsNumber 64 = .ok (.iadd, 1) := by decide +kernel
theorem dX12_readsNumber_65 : decode cX12_readsNumber 65 = .ok (.putfield 73, 3) := by decide +kernel
theorem dX12_readsNumber_68 : decode cX12_readsNumber 68 = .ok (.iinc 3 1, 3) := by decide +kernel
theorem dX12_readsNumber_71 : decode cX12_readsNumber 71 = .ok (.goto (-42), 3) := by decide +kernel
theorem dX12_readsNumber_74 : decode cX12_readsNumber 74 = .ok (.aload_n 0, 1) := by decide +kernel
theorem dX12_readsNumber_75 : decode cX12_readsNumber 75 = .ok (.getfield 37, 3) := by decide +kernel
theorem dX12_readsNumber_78 : decode cX12_readsNumber 78 = .ok (.aload_n 0, 1) := by decide +kernel
theorem dX12_readsNumber_79 : decode cX12_readsNumber 79 = .ok (.getfield 94, 3) := by decide +kernel
theorem dX12_readsNumber_82 : decode cX12_readsNumber 82 = .ok (.iload_n 2, 1) := by decide +kernel
theorem dX12_readsNumber_83 : decode cX12_readsNumber 83 = .ok (.iastore, 1) := by decide +kernel
theorem dX12_readsNumber_84 : decode cX12_readsNumber 84 = .ok (.aload_n 0, 1) := by decide +kernel
theorem dX12_readsNumber_85 : decode cX12_readsNumber 85 = .ok (.dup, 1) := by decide +kernel
theorem dX12_readsNumber_86 : decode cX12_readsNumber 86 = .ok (.getfield 94, 3) := by decide +kernel
theorem dX12_readsNumber_89 : decode cX12_readsNumber 89 = .ok (.iconst 1, 1) := by decide +kernel
theorem dX12_readsNumber_90 : decode cX12_readsNumber 90 = .ok (.iadd, 1) := by decide +kernel
theorem dX12_readsNumber_91 : decode cX12_readsNumber 91 = .ok (.putfield 94, 3) := by decide +kernel
theorem dX12_readsNumber_94 : decode cX12_readsNumber 94 = .ok (.iconst 1, 1) := by decide +kernel
theorem dX12_readsNumber_95 : decode cX12_readsNumber 95 = .ok (.ireturn, 1) := by decide +kernel
theorem dX12_readsMark_0 : decode cX12_readsMark 0 = .ok (.aload_n 0, 1) := by decide +kernel
theorem dX12_readsMark_1 : decode cX12_readsMark 1 = .ok (.invokevirtual 82, 3) := by decide +kernel
theorem dX12_readsMark_4 : decode cX12_readsMark 4 = .ok (.i2l, 1) := by decide +kernel
theorem dX12_readsMark_5 : decode cX12_readsMark 5 = .ok (.ldc2_w 97, 3) := by decide +kernel
theorem dX12_readsMark_8 : decode cX12_readsMark 8 = .ok (.ldc2_w 99, 3) := by decide +kernel
theorem dX12_readsMark_11 : decode cX12_readsMark 11 = .ok (.invokestatic 65, 3) := by decide +kernel
theorem dX12_readsMark_14 : decode cX12_readsMark 14 = .ok (.ifCond .ne 5, 3) := by decide +kernel
theorem dX12_readsMark_17 : decode cX12_readsMark 17 = .ok (.iconst 0, 1) := by decide +kernel
theorem dX12_readsMark_18 : decode cX12_readsMark 18 = .ok (.ireturn, 1) := by decide +kernel
theorem dX12_readsMark_19 : decode cX12_readsMark 19 = .ok (.aload_n 0, 1) := by decide +kernel
theorem dX12_readsMark_20 : decode cX12_readsMark 20 = .ok (.getfield 37, 3) := by decide +kernel
theorem dX12_readsMark_23 : decode cX12_readsMark 23 = .ok (.aload_n 0, 1) := by decide +kernel
theorem dX12_readsMark_24 : decode cX12_readsMark 24 = .ok (.getfield 94, 3) := by decide +kernel
theorem dX12_readsMark_27 : decode cX12_readsMark 27 = .ok (.aload_n 0, 1) := by decide +kernel
theorem dX12_readsMark_28 : decode cX12_readsMark 28 = .ok (.invokevirtual 82, 3) := by decide +kernel
theorem dX12_readsMark_31 : decode cX12_readsMark 31 = .ok (.bipush 97, 2) := by decide +kernel
theorem dX12_readsMark_33 : decode cX12_readsMark 33 = .ok (.isub, 1) := by decide +kernel
theorem dX12_readsMark_34 : decode cX12_readsMark 34 = .ok (.iastore, 1) := by decide +kernel
theorem dX12_readsMark_35 : decode cX12_readsMark 35 = .ok (.aload_n 0, 1) := by decide +kernel
theorem dX12_readsMark_36 : decode cX12_readsMark 36 = .ok (.dup, 1) := by decide +kernel
theorem dX12_readsMark_37 : decode cX12_readsMark 37 = .ok (.getfield 94, 3) := by decide +kernel
theorem dX12_readsMark_40 : decode cX12_readsMark 40 = .ok (.iconst 1, 1) := by decide +kernel
theorem dX12_readsMark_41 : decode cX12_readsMark 41 = .ok (.iadd, 1) := by decide +kernel
theorem dX12_readsMark_42 : decode cX12_readsMark 42 = .ok (.putfield 94, 3) := by decide +kernel
theorem dX12_readsMark_45 : decode cX12_readsMark 45 = .ok (.aload_n 0, 1) := by decide +kernel
theorem dX12_readsMark_46 : decode cX12_readsMark 46 = .ok (.dup, 1) := by decide +kernel
theorem dX12_readsMark_47 : decode cX12_readsMark 47 = .ok (.getfield 73, 3) := by decide +kernel
theorem dX12_readsMark_50 : decode cX12_readsMark 50 = .ok (.iconst 1, 1) := by decide +kernel
theorem dX12_readsMark_51 : decode cX12_readsMark 51 = .ok (.iadd, 1) := by decide +kernel
theorem dX12_readsMark_52 : decode cX12_readsMark 52 = .ok (.putfield 73, 3) := by decide +kernel
theorem dX12_readsMark_55 : decode cX12_readsMark 55 = .ok (.iconst 1, 1) := by decide +kernel
theorem dX12_readsMark_56 : decode cX12_readsMark 56 = .ok (.ireturn, 1) := by decide +kernel
theorem dX12_readsDeed_0 : decode cX12_readsDeed 0 = .ok (.aload_n 0, 1) := by decide +kernel
theorem dX12_readsDeed_1 : decode cX12_readsDeed 1 = .ok (.iconst 1, 1) := by decide +kernel
theorem dX12_readsDeed_2 : decode cX12_readsDeed 2 = .ok (.invokevirtual 101, 3) := by decide +kernel
theorem dX12_readsDeed_5 : decode cX12_readsDeed 5 = .ok (.ifCond .ne 5, 3) := by decide +kernel
theorem dX12_readsDeed_8 : decode cX12_readsDeed 8 = .ok (.iconst 0, 1) := by decide +kernel
theorem dX12_readsDeed_9 : decode cX12_readsDeed 9 = .ok (.ireturn, 1) := by decide +kernel
theorem dX12_readsDeed_10 : decode cX12_readsDeed 10 = .ok (.aload_n 0, 1) := by decide +kernel
theorem dX12_readsDeed_11 : decode cX12_readsDeed 11 = .ok (.aload_n 0, 1) := by decide +kernel
theorem dX12_readsDeed_12 : decode cX12_readsDeed 12 = .ok (.getfield 37, 3) := by decide +kernel
theorem dX12_readsDeed_15 : decode cX12_readsDeed 15 = .ok (.iconst 0, 1) := by decide +kernel
theorem dX12_readsDeed_16 : decode cX12_readsDeed 16 = .ok (.iaload, 1) := by decide +kernel
theorem dX12_readsDeed_17 : decode cX12_readsDeed 17 = .ok (.putfield 105, 3) := by decide +kernel
theorem dX12_readsDeed_20 : decode cX12_readsDeed 20 = .ok (.aload_n 0, 1) := by decide +kernel
theorem dX12_readsDeed_21 : decode cX12_readsDeed 21 = .ok (.iconst 0, 1) := by decide +kernel
theorem dX12_readsDeed_22 : decode cX12_readsDeed 22 = .ok (.putfield 108, 3) := by decide +kernel
theorem dX12_readsDeed_25 : decode cX12_readsDeed 25 = .ok (.iconst (-1), 1) := by decide +kernel
theorem dX12_readsDeed_26 : decode cX12_readsDeed 26 = .ok (.istore_n 1, 1) := by decide +kernel
theorem dX12_readsDeed_27 : decode cX12_readsDeed 27 = .ok (.aload_n 0, 1) := by decide +kernel
theorem dX12_readsDeed_28 : decode cX12_readsDeed 28 = .ok (.invokevirtual 82, 3) := by decide +kernel
theorem dX12_readsDeed_31 : decode cX12_readsDeed 31 = .ok (.i2l, 1) := by decide +kernel
theorem dX12_readsDeed_32 : decode cX12_readsDeed 32 = .ok (.bipush 97, 2) := by decide +kernel
theorem dX12_readsDeed_34 : decode cX12_readsDeed 34 = .ok (.iload_n 1, 1) := by decide +kernel
theorem dX12_readsDeed_35 : decode cX12_readsDeed 35 = .ok (.iadd, 1) := by decide +kernel
theorem dX12_readsDeed_36 : decode cX12_readsDeed 36 = .ok (.iconst 1, 1) := by decide +kernel
theorem dX12_readsDeed_37 : decode cX12_readsDeed 37 = .ok (.iadd, 1) := by decide +kernel
theorem dX12_readsDeed_38 : decode cX12_readsDeed 38 = .ok (.i2l, 1) := by decide +kernel
theorem dX12_readsDeed_39 : decode cX12_readsDeed 39 = .ok (.ldc2_w 99, 3) := by decide +kernel
theorem dX12_readsDeed_42 : decode cX12_readsDeed 42 = .ok (.invokestatic 65, 3) := by decide +kernel
theorem dX12_readsDeed_45 : decode cX12_readsDeed 45 = .ok (.ifCond .eq 36, 3) := by decide +kernel
theorem dX12_readsDeed_48 : decode cX12_readsDeed 48 = .ok (.aload_n 0, 1) := by decide +kernel
theorem dX12_readsDeed_49 : decode cX12_readsDeed 49 = .ok (.invokevirtual 82, 3) := by decide +kernel
theorem dX12_readsDeed_52 : decode cX12_readsDeed 52 = .ok (.bipush 97, 2) := by decide +kernel
theorem dX12_readsDeed_54 : decode cX12_readsDeed 54 = .ok (.isub, 1) := by decide +kernel
theorem dX12_readsDeed_55 : decode cX12_readsDeed 55 = .ok (.istore_n 1, 1) := by decide +kernel
theorem dX12_readsDeed_56 : decode cX12_readsDeed 56 = .ok (.aload_n 0, 1) := by decide +kernel
theorem dX12_readsDeed_57 : decode cX12_readsDeed 57 = .ok (.dup, 1) := by decide +kernel
theorem dX12_readsDeed_58 : decode cX12_readsDeed 58 = .ok (.getfield 108, 3) := by decide +kernel
theorem dX12_readsDeed_61 : decode cX12_readsDeed 61 = .ok (.iconst 1, 1) := by decide +kernel
theorem dX12_readsDeed_62 : decode cX12_readsDeed 62 = .ok (.iload_n 1, 1) := by decide +kernel
theorem dX12_readsDeed_63 : decode cX12_readsDeed 63 = .ok (.ishl, 1) := by decide +kernel
theorem dX12_readsDeed_64 : decode cX12_readsDeed 64 = .ok (.ior, 1) := by decide +kernel
theorem dX12_readsDeed_65 : decode cX12_readsDeed 65 = .ok (.putfield 108, 3) := by decide +kernel
theorem dX12_readsDeed_68 : decode cX12_readsDeed 68 = .ok (.aload_n 0, 1) := by decide +kernel
theorem dX12_readsDeed_69 : decode cX12_readsDeed 69 = .ok (.dup, 1) := by decide +kernel
theorem dX12_readsDeed_70 : decode cX12_readsDeed 70 = .ok (.getfield 73, 3) := by decide +kernel
theorem dX12_readsDeed_73 : decode cX12_readsDeed 73 = .ok (.iconst 1, 1) := by decide +kernel
theorem dX12_readsDeed_74 : decode cX12_readsDeed 74 = .ok (.iadd, 1) := by decide +kernel
theorem dX12_readsDeed_75 : decode cX12_readsDeed 75 = .ok (.putfield 73, 3) := by decide +kernel
theorem dX12_readsDeed_78 : decode cX12_readsDeed 78 = .ok (.goto (-51), 3) := by decide +kernel
theorem dX12_readsDeed_81 : decode cX12_readsDeed 81 = .ok (.aload_n 0, 1) := by decide +kernel
theorem dX12_readsDeed_82 : decode cX12_readsDeed 82 = .ok (.iconst 0, 1) := by decide +kernel
theorem dX12_readsDeed_83 : decode cX12_readsDeed 83 = .ok (.putfield 94, 3) := by decide +kernel
theorem dX12_readsDeed_86 : decode cX12_readsDeed 86 = .ok (.aload_n 0, 1) := by decide +kernel
theorem dX12_readsDeed_87 : decode cX12_readsDeed 87 = .ok (.bipush 32, 2) := by decide +kernel
theorem dX12_readsDeed_89 : decode cX12_readsDeed 89 = .ok (.invokevirtual 111, 3) := by decide +kernel
theorem dX12_readsDeed_92 : decode cX12_readsDeed 92 = .ok (.ifCond .eq 35, 3) := by decide +kernel
theorem dX12_readsDeed_95 : decode cX12_readsDeed 95 = .ok (.aload_n 0, 1) := by decide +kernel
theorem dX12_readsDeed_96 : decode cX12_readsDeed 96 = .ok (.invokevirtual 114, 3) := by decide +kernel
theorem dX12_readsDeed_99 : decode cX12_readsDeed 99 = .ok (.ifCond .eq 28, 3) := by decide +kernel
theorem dX12_readsDeed_102 : decode cX12_readsDeed 102 = .ok (.aload_n 0, 1) := by decide +kernel
theorem dX12_readsDeed_103 : decode cX12_readsDeed 103 = .ok (.iconst 2, 1) := by decide +kernel
theorem dX12_readsDeed_104 : decode cX12_readsDeed 104 = .ok (.invokevirtual 101, 3) := by decide +kernel
theorem dX12_readsDeed_107 : decode cX12_readsDeed 107 = .ok (.ifCond .eq 20, 3) := by decide +kernel
theorem dX12_readsDeed_110 : decode cX12_readsDeed 110 = .ok (.aload_n 0, 1) := by decide +kernel
theorem dX12_readsDeed_111 : decode cX12_readsDeed 111 = .ok (.bipush 32, 2) := by decide +kernel
theorem dX12_readsDeed_113 : decode cX12_readsDeed 113 = .ok (.invokevirtual 111, 3) := by decide +kernel
theorem dX12_readsDeed_116 : decode cX12_readsDeed 116 = .ok (.ifCond .eq 11, 3) := by decide +kernel
theorem dX12_readsDeed_119 : decode cX12_readsDeed 119 = .ok (.aload_n 0, 1) := by decide +kernel
theorem dX12_readsDeed_120 : decode cX12_readsDeed 120 = .ok (.iconst 1, 1) := by decide +kernel
theorem dX12_readsDeed_121 : decode cX12_readsDeed 121 = .ok (.invokevirtual 101, 3) := by decide +kernel
theorem dX12_readsDeed_124 : decode cX12_readsDeed 124 = .ok (.ifCond .ne 5, 3) := by decide +kernel
theorem dX12_readsDeed_127 : decode cX12_readsDeed 127 = .ok (.iconst 0, 1) := by decide +kernel
theorem dX12_readsDeed_128 : decode cX12_readsDeed 128 = .ok (.ireturn, 1) := by decide +kernel
theorem dX12_readsDeed_129 : decode cX12_readsDeed 129 = .ok (.aload_n 0, 1) := by decide +kernel
theorem dX12_readsDeed_130 : decode cX12_readsDeed 130 = .ok (.aload_n 0, 1) := by decide +kernel
theorem dX12_readsDeed_131 : decode cX12_readsDeed 131 = .ok (.getfield 37, 3) := by decide +kernel
theorem dX12_readsDeed_134 : decode cX12_readsDeed 134 = .ok (.iconst 2, 1) := by decide +kernel
theorem dX12_readsDeed_135 : decode cX12_readsDeed 135 = .ok (.iaload, 1) := by decide +kernel
theorem dX12_readsDeed_136 : decode cX12_readsDeed 136 = .ok (.putfield 117, 3) := by decide +kernel
theorem dX12_readsDeed_139 : decode cX12_readsDeed 139 = .ok (.iconst 1, 1) := by decide +kernel
theorem dX12_readsDeed_140 : decode cX12_readsDeed 140 = .ok (.ireturn, 1) := by decide +kernel
theorem dX12_readsStatement_0 : decode cX12_readsStatement 0 = .ok (.aload_n 0, 1) := by decide +kernel
theorem dX12_readsStatement_1 : decode cX12_readsStatement 1 = .ok (.invokevirtual 82, 3) := by decide +kernel
theorem dX12_readsStatement_4 : decode cX12_readsStatement 4 = .ok (.istore_n 1, 1) := by decide +kernel
theorem dX12_readsStatement_5 : decode cX12_readsStatement 5 = .ok (.aload_n 0, 1) := by decide +kernel
theorem dX12_readsStatement_6 : decode cX12_readsStatement 6 = .ok (.iconst 0, 1) := by decide +kernel
theorem dX12_readsStatement_7 : decode cX12_readsStatement 7 = .ok (.putfield 94, 3) := by decide +kernel
theorem dX12_readsStatement_10 : decode cX12_readsStatement 10 = .ok (.iload_n 1, 1) := by decide +kernel
theorem dX12_readsStatement_11 : decode cX12_readsStatement 11 = .ok (.bipush 100, 2) := by decide +kernel
theorem dX12_readsStatement_13 : decode cX12_readsStatement 13 = .ok (.if_icmp .eq 29, 3) := by decide +kernel
theorem dX12_readsStatement_16 : decode cX12_readsStatement 16 = .ok (.iload_n 1, 1) := by decide +kernel
theorem dX12_readsStatement_17 : decode cX12_readsStatement 17 = .ok (.bipush 109, 2) := by decide +kernel
theorem dX12_readsStatement_19 : decode cX12_readsStatement 19 = .ok (.if_icmp .eq 23, 3) := by decide +kernel
theorem dX12_readsStatement_22 : decode cX12_readsStatement 22 = .ok (.iload_n 1, 1) := by decide +kernel
theorem dX12_readsStatement_23 : decode cX12_readsStatement 23 = .ok (.bipush 99, 2) := by decide +kernel
theorem dX12_readsStatement_25 : decode cX12_readsStatement 25 = .ok (.if_icmp .eq 17, 3) := by decide +kernel
theorem dX12_readsStatement_28 : decode cX12_readsStatement 28 = .ok (.iload_n 1, 1) := by decide +kernel
theorem dX12_readsStatement_29 : decode cX12_readsStatement 29 = .ok (.bipush 110, 2) := by decide +kernel
theorem dX12_readsStatement_31 : decode cX12_readsStatement 31 = .ok (.if_icmp .eq 11, 3) := by decide +kernel
theorem dX12_readsStatement_34 : decode cX12_readsStatement 34 = .ok (.iload_n 1, 1) := by decide +kernel
theorem dX12_readsStatement_35 : decode cX12_readsStatement 35 = .ok (.bipush 108, 2) := by decide +kernel
theorem dX12_readsStatement_37 : decode cX12_readsStatement 37 = .ok (.if_icmp .eq 5, 3) := by decide +kernel
theorem dX12_readsStatement_40 : decode cX12_readsStatement 40 = .ok (.iconst 0, 1) := by decide +kernel
theorem dX12_readsStatement_41 : decode cX12_readsStatement 41 = .ok (.ireturn, 1) := by decide +kernel
theorem dX12_readsStatement_42 : decode cX12_readsStatement 42 = .ok (.aload_n 0, 1) := by decide +kernel
theorem dX12_readsStatement_43 : decode cX12_readsStatement 43 = .ok (.dup, 1) := by decide +kernel
theorem dX12_readsStatement_44 : decode cX12_readsStatement 44 = .ok (.getfield 73, 3) := by decide +kernel
theorem dX12_readsStatement_47 : decode cX12_readsStatement 47 = .ok (.iconst 1, 1) := by decide +kernel
theorem dX12_readsStatement_48 : decode cX12_readsStatement 48 = .ok (.iadd, 1) := by decide +kernel
theorem dX12_readsStatement_49 : decode cX12_readsStatement 49 = .ok (.putfield 73, 3) := by decide +kernel
theorem dX12_readsStatement_52 : decode cX12_readsStatement 52 = .ok (.iconst 0, 1) := by decide +kernel
theorem dX12_readsStatement_53 : decode cX12_readsStatement 53 = .ok (.istore_n 2, 1) := by decide +kernel
theorem dX12_readsStatement_54 : decode cX12_readsStatement 54 = .ok (.iload_n 1, 1) := by decide +kernel
theorem dX12_readsStatement_55 : decode cX12_readsStatement 55 = .ok (.lookupswitch 75 #[(99, 57), (100, 41), (108, 66), (109, 49)], 41) := by decide +kernel
theorem dX12_readsStatement_96 : decode cX12_readsStatement 96 = .ok (.aload_n 0, 1) := by decide +kernel
theorem dX12_readsStatement_97 : decode cX12_readsStatement 97 = .ok (.invokevirtual 120, 3) := by decide +kernel
theorem dX12_readsStatement_100 : decode cX12_readsStatement 100 = .ok (.istore_n 2, 1) := by decide +kernel
theorem dX12_readsStatement_101 : decode cX12_readsStatement 101 = .ok (.goto 110, 3) := by decide +kernel
theorem dX12_readsStatement_104 : decode cX12_readsStatement 104 = .ok (.aload_n 0, 1) := by decide +kernel
theorem dX12_readsStatement_105 : decode cX12_readsStatement 105 = .ok (.invokevirtual 114, 3) := by decide +kernel
theorem dX12_readsStatement_108 : decode cX12_readsStatement 108 = .ok (.istore_n 2, 1) := by decide +kernel
theorem dX12_readsStatement_109 : decode cX12_readsStatement 109 = .ok (.goto 102, 3) := by decide +kernel
theorem dX12_readsStatement_112 : decode cX12_readsStatement 112 = .ok (.aload_n 0, 1) := by decide +kernel
theorem dX12_readsStatement_113 : decode cX12_readsStatement 113 = .ok (.iconst 4, 1) := by decide +kernel
theorem dX12_readsStatement_114 : decode cX12_readsStatement 114 = .ok (.invokevirtual 101, 3) := by decide +kernel
theorem dX12_readsStatement_117 : decode cX12_readsStatement 117 = .ok (.istore_n 2, 1) := by decide +kernel
theorem dX12_readsStatement_118 : decode cX12_readsStatement 118 = .ok (.goto 93, 3) := by decide +kernel
theorem dX12_readsStatement_121 : decode cX12_readsStatement 121 = .ok (.aload_n 0, 1) := by decide +kernel
theorem dX12_readsStatement_122 : decode cX12_readsStatement 122 = .ok (.iconst 1, 1) := by decide +kernel
theorem dX12_readsStatement_123 : decode cX12_readsStatement 123 = .ok (.invokevirtual 101, 3) := by decide +kernel
theorem dX12_readsStatement_126 : decode cX12_readsStatement 126 = .ok (.istore_n 2, 1) := by decide +kernel
theorem dX12_readsStatement_127 : decode cX12_readsStatement 127 = .ok (.goto 84, 3) := by decide +kernel
theorem dX12_readsStatement_130 : decode cX12_readsStatement 130 = .ok (.aload_n 0, 1) := by decide +kernel
theorem dX12_readsStatement_131 : decode cX12_readsStatement 131 = .ok (.iconst 2, 1) := by decide +kernel
theorem dX12_readsStatement_132 : decode cX12_readsStatement 132 = .ok (.invokevirtual 101, 3) := by decide +kernel
theorem dX12_readsStatement_135 : decode cX12_readsStatement 135 = .ok (.ifCond .eq 12, 3) := by decide +kernel
theorem dX12_readsStatement_138 : decode cX12_readsStatement 138 = .ok (.aload_n 0, 1) := by decide +kernel
theorem dX12_readsStatement_139 : decode cX12_readsStatement 139 = .ok (.bipush 32, 2) := by decide +kernel
theorem dX12_readsStatement_141 : decode cX12_readsStatement 141 = .ok (.invokevirtual 111, 3) := by decide +kernel
theorem dX12_readsStatement_144 : decode cX12_readsStatement 144 = .ok (.ifCond .ne 5, 3) := by decide +kernel
theorem dX12_readsStatement_147 : decode cX12_readsStatement 147 = .ok (.iconst 0, 1) := by decide +kernel
theorem dX12_readsStatement_148 : decode cX12_readsStatement 148 = .ok (.ireturn, 1) := by decide +kernel
theorem dX12_readsStatement_149 : decode cX12_readsStatement 149 = .ok (.aload_n 0, 1) := by decide +kernel
theorem dX12_readsStatement_150 : decode cX12_readsStatement 150 = .ok (.invokevirtual 82, 3) := by decide +kernel
theorem dX12_readsStatement_153 : decode cX12_readsStatement 153 = .ok (.bipush 45, 2) := by decide +kernel
theorem dX12_readsStatement_155 : decode cX12_readsStatement 155 = .ok (.if_icmp .ne 7, 3) := by decide +kernel
theorem dX12_readsStatement_158 : decode cX12_readsStatement 158 = .ok (.iconst 1, 1) := by decide +kernel
theorem dX12_readsStatement_159 : decode cX12_readsStatement 159 = .ok (.goto 4, 3) := by decide +kernel
theorem dX12_readsStatement_162 : decode cX12_readsStatement 162 = .ok (.iconst 0, 1) := by decide +kernel
theorem dX12_readsStatement_163 : decode cX12_readsStatement 163 = .ok (.istore_n 3, 1) := by decide +kernel
theorem dX12_readsStatement_164 : decode cX12_readsStatement 164 = .ok (.aload_n 0, 1) := by decide +kernel
theorem dX12_readsStatement_165 : decode cX12_readsStatement 165 = .ok (.bipush 43, 2) := by decide +kernel
theorem dX12_readsStatement_167 : decode cX12_readsStatement 167 = .ok (.invokevirtual 111, 3) := by decide +kernel
theorem dX12_readsStatement_170 : decode cX12_readsStatement 170 = .ok (.ifCond .ne 14, 3) := by decide +kernel
theorem dX12_readsStatement_173 : decode cX12_readsStatement 173 = .ok (.aload_n 0, 1) := by decide +kernel
theorem dX12_readsStatement_174 : decode cX12_readsStatement 174 = .ok (.bipush 45, 2) := by decide +kernel
theorem dX12_readsStatement_176 : decode cX12_readsStatement 176 = .ok (.invokevirtual 111, 3) := by decide +kernel
theorem dX12_readsStatement_179 : decode cX12_readsStatement 179 = .ok (.ifCond .ne 5, 3) := by decide +kernel
theorem dX12_readsStatement_182 : decode cX12_readsStatement 182 = .ok (.iconst 0, 1) := by decide +kernel
theorem dX12_readsStatement_183 : decode cX12_readsStatement 183 = .ok (.ireturn, 1) := by decide +kernel
theorem dX12_readsStatement_184 : decode cX12_readsStatement 184 = .ok (.aload_n 0, 1) := by decide +kernel
theorem dX12_readsStatement_185 : decode cX12_readsStatement 185 = .ok (.iconst 1, 1) := by decide +kernel
theorem dX12_readsStatement_186 : decode cX12_readsStatement 186 = .ok (.invokevirtual 101, 3) := by decide +kernel
theorem dX12_readsStatement_189 : decode cX12_readsStatement 189 = .ok (.istore_n 2, 1) := by decide +kernel
theorem dX12_readsStatement_190 : decode cX12_readsStatement 190 = .ok (.iload_n 2, 1) := by decide +kernel
theorem dX12_readsStatement_191 : decode cX12_readsStatement 191 = .ok (.ifCond .eq 20, 3) := by decide +kernel
theorem dX12_readsStatement_194 : decode cX12_readsStatement 194 = .ok (.iload_n 3, 1) := by decide +kernel
theorem dX12_readsStatement_195 : decode cX12_readsStatement 195 = .ok (.ifCond .eq 16, 3) := by decide +kernel
theorem dX12_readsStatement_198 : decode cX12_readsStatement 198 = .ok (.aload_n 0, 1) := by decide +kernel
theorem dX12_readsStatement_199 : decode cX12_readsStatement 199 = .ok (.getfield 37, 3) := by decide +kernel
theorem dX12_readsStatement_202 : decode cX12_readsStatement 202 = .ok (.iconst 1, 1) := by decide +kernel
theorem dX12_readsStatement_203 : decode cX12_readsStatement 203 = .ok (.aload_n 0, 1) := by decide +kernel
theorem dX12_readsStatement_204 : decode cX12_readsStatement 204 = .ok (.getfield 37, 3) := by decide +kernel
theorem dX12_readsStatement_207 : decode cX12_readsStatement 207 = .ok (.iconst 1, 1) := by decide +kernel
theorem dX12_readsStatement_208 : decode cX12_readsStatement 208 = .ok (.iaload, 1) := by decide +kernel
theorem dX12_readsStatement_209 : decode cX12_readsStatement 209 = .ok (.ineg, 1) := by decide +kernel
theorem dX12_readsStatement_210 : decode cX12_readsStatement 210 = .ok (.iastore, 1) := by decide +kernel
theorem dX12_readsStatement_211 : decode cX12_readsStatement 211 = .ok (.iload_n 2, 1) := by decide +kernel
theorem dX12_readsStatement_212 : decode cX12_readsStatement 212 = .ok (.ifCond .eq 16, 3) := by decide +kernel
theorem dX12_readsStatement_215 : decode cX12_readsStatement 215 = .ok (.aload_n 0, 1) := by decide +kernel
theorem dX12_readsStatement_216 : decode cX12_readsStatement 216 = .ok (.bipush 59, 2) := by decide +kernel
theorem dX12_readsStatement_218 : decode cX12_readsStatement 218 = .ok (.invokevirtual 111, 3) := by decide +kernel
theorem dX12_readsStatement_221 : decode cX12_readsStatement 221 = .ok (.ifCond .eq 7, 3) := by decide +kernel
theorem dX12_readsStatement_224 : decode cX12_readsStatement 224 = .ok (.iconst 1, 1) := by decide +kernel
theorem dX12_readsStatement_225 : decode cX12_readsStatement 225 = .ok (.goto 4, 3) := by decide +kernel
theorem dX12_readsStatement_228 : decode cX12_readsStatement 228 = .ok (.iconst 0, 1) := by decide +kernel
theorem dX12_readsStatement_229 : decode cX12_readsStatement 229 = .ok (.ireturn, 1) := by decide +kernel
theorem dX12_comes_0 : decode cX12_comes 0 = .ok (.aload_n 0, 1) := by decide +kernel
theorem dX12_comes_1 : decode cX12_comes 1 = .ok (.getfield 37, 3) := by decide +kernel
theorem dX12_comes_4 : decode cX12_comes 4 = .ok (.iconst 0, 1) := by decide +kernel
theorem dX12_comes_5 : decode cX12_comes 5 = .ok (.iaload, 1) := by decide +kernel
theorem dX12_comes_6 : decode cX12_comes 6 = .ok (.istore_n 2, 1) := by decide +kernel
theorem dX12_comes_7 : decode cX12_comes 7 = .ok (.iload_n 1, 1) := by decide +kernel
theorem dX12_comes_8 : decode cX12_comes 8 = .ok (.lookupswitch 209 #[(99, 182), (100, 44), (108, 191), (109, 152)], 44) := by decide +kernel
theorem dX12_comes_52 : decode cX12_comes 52 = .ok (.aload_n 0, 1) := by decide +kernel
theorem dX12_comes_53 : decode cX12_comes 53 = .ok (.getfield 105, 3) := by decide +kernel
theorem dX12_comes_56 : decode cX12_comes 56 = .ok (.bipush 7, 2) := by decide +kernel
theorem dX12_comes_58 : decode cX12_comes 58 = .ok (.if_icmp .gt 15, 3) := by decide +kernel
theorem dX12_comes_61 : decode cX12_comes 61 = .ok (.aload_n 0, 1) := by decide +kernel
theorem dX12_comes_62 : decode cX12_comes 62 = .ok (.getfield 16, 3) := by decide +kernel
theorem dX12_comes_65 : decode cX12_comes 65 = .ok (.bipush 6, 2) := by decide +kernel
theorem dX12_comes_67 : decode cX12_comes 67 = .ok (.iaload, 1) := by decide +kernel
theorem dX12_comes_68 : decode cX12_comes 68 = .ok (.bipush 8, 2) := by decide +kernel
theorem dX12_comes_70 : decode cX12_comes 70 = .ok (.if_icmp .ne 5, 3) := by decide +kernel
theorem dX12_comes_73 : decode cX12_comes 73 = .ok (.iconst 0, 1) := by decide +kernel
theorem dX12_comes_74 : decode cX12_comes 74 = .ok (.ireturn, 1) := by decide +kernel
theorem dX12_comes_75 : decode cX12_comes 75 = .ok (.bipush 7, 2) := by decide +kernel
theorem dX12_comes_77 : decode cX12_comes 77 = .ok (.iconst 5, 1) := by decide +kernel
theorem dX12_comes_78 : decode cX12_comes 78 = .ok (.aload_n 0, 1) := by decide +kernel
theorem dX12_comes_79 : decode cX12_comes 79 = .ok (.getfield 16, 3) := by decide +kernel
theorem dX12_comes_82 : decode cX12_comes 82 = .ok (.bipush 6, 2) := by decide +kernel
theorem dX12_comes_84 : decode cX12_comes 84 = .ok (.iaload, 1) := by decide +kernel
theorem dX12_comes_85 : decode cX12_comes 85 = .ok (.imul, 1) := by decide +kernel
theorem dX12_comes_86 : decode cX12_comes 86 = .ok (.iadd, 1) := by decide +kernel
theorem dX12_comes_87 : decode cX12_comes 87 = .ok (.istore_n 3, 1) := by decide +kernel
theorem dX12_comes_88 : decode cX12_comes 88 = .ok (.aload_n 0, 1) := by decide +kernel
theorem dX12_comes_89 : decode cX12_comes 89 = .ok (.getfield 16, 3) := by decide +kernel
theorem dX12_comes_92 : decode cX12_comes 92 = .ok (.iload_n 3, 1) := by decide +kernel
theorem dX12_comes_93 : decode cX12_comes 93 = .ok (.iconst 0, 1) := by decide +kernel
theorem dX12_comes_94 : decode cX12_comes 94 = .ok (.iadd, 1) := by decide +kernel
theorem dX12_comes_95 : decode cX12_comes 95 = .ok (.aload_n 0, 1) := by decide +kernel
theorem dX12_comes_96 : decode cX12_comes 96 = .ok (.getfield 105, 3) := by decide +kernel
theorem dX12_comes_99 : decode cX12_comes 99 = .ok (.iastore, 1) := by decide +kernel
theorem dX12_comes_100 : decode cX12_comes 100 = .ok (.aload_n 0, 1) := by decide +kernel
theorem dX12_comes_101 : decode cX12_comes 101 = .ok (.getfield 16, 3) := by decide +kernel
theorem dX12_comes_104 : decode cX12_comes 104 = .ok (.iload_n 3, 1) := by decide +kernel
theorem dX12_comes_105 : decode cX12_comes 105 = .ok (.iconst 1, 1) := by decide +kernel
theorem dX12_comes_106 : decode cX12_comes 106 = .ok (.iadd, 1) := by decide +kernel
theorem dX12_comes_107 : decode cX12_comes 107 = .ok (.aload_n 0, 1) := by decide +kernel
theorem dX12_comes_108 : decode cX12_comes 108 = .ok (.getfield 108, 3) := by decide +kernel
theorem dX12_comes_111 : decode cX12_comes 111 = .ok (.iastore, 1) := by decide +kernel
theorem dX12_comes_112 : decode cX12_comes 112 = .ok (.aload_n 0, 1) := by decide +kernel
theorem dX12_comes_113 : decode cX12_comes 113 = .ok (.getfield 16, 3) := by decide +kernel
theorem dX12_comes_116 : decode cX12_comes 116 = .ok (.iload_n 3, 1) := by decide +kernel
theorem dX12_comes_117 : decode cX12_comes 117 = .ok (.iconst 2, 1) := by decide +kernel
theorem dX12_comes_118 : decode cX12_comes 118 = .ok (.iadd, 1) := by decide +kernel
theorem dX12_comes_119 : decode cX12_comes 119 = .ok (.iload_n 2, 1) := by decide +kernel
theorem dX12_comes_120 : decode cX12_comes 120 = .ok (.iastore, 1) := by decide +kernel
theorem dX12_comes_121 : decode cX12_comes 121 = .ok (.aload_n 0, 1) := by decide +kernel
theorem dX12_comes_122 : decode cX12_comes 122 = .ok (.getfield 16, 3) := by decide +kernel
theorem dX12_comes_125 : decode cX12_comes 125 = .ok (.iload_n 3, 1) := by decide +kernel
theorem dX12_comes_126 : decode cX12_comes 126 = .ok (.iconst 3, 1) := by decide +kernel
theorem dX12_comes_127 : decode cX12_comes 127 = .ok (.iadd, 1) := by decide +kernel
theorem dX12_comes_128 : decode cX12_comes 128 = .ok (.aload_n 0, 1) := by decide +kernel
theorem dX12_comes_129 : decode cX12_comes 129 = .ok (.getfield 37, 3) := by decide +kernel
theorem dX12_comes_132 : decode cX12_comes 132 = .ok (.iconst 1, 1) := by decide +kernel
theorem dX12_comes_133 : decode cX12_comes 133 = .ok (.iaload, 1) := by decide +kernel
theorem dX12_comes_134 : decode cX12_comes 134 = .ok (.iastore, 1) := by decide +kernel
theorem dX12_comes_135 : decode cX12_comes 135 = .ok (.aload_n 0, 1) := by decide +kernel
theorem dX12_comes_136 : decode cX12_comes 136 = .ok (.getfield 16, 3) := by decide +kernel
theorem dX12_comes_139 : decode cX12_comes 139 = .ok (.iload_n 3, 1) := by decide +kernel
theorem dX12_comes_140 : decode cX12_comes 140 = .ok (.iconst 4, 1) := by decide +kernel
theorem dX12_comes_141 : decode cX12_comes 141 = .ok (.iadd, 1) := by decide +kernel
theorem dX12_comes_142 : decode cX12_comes 142 = .ok (.aload_n 0, 1) := by decide +kernel
theorem dX12_comes_143 : decode cX12_comes 143 = .ok (.getfield 117, 3) := by decide +kernel
theorem dX12_comes_146 : decode cX12_comes 146 = .ok (.iastore, 1) := by decide +kernel
theorem dX12_comes_147 : decode cX12_comes 147 = .ok (.aload_n 0, 1) := by decide +kernel
theorem dX12_comes_148 : decode cX12_comes 148 = .ok (.getfield 16, 3) := by decide +kernel
theorem dX12_comes_151 : decode cX12_comes 151 = .ok (.bipush 6, 2) := by decide +kernel
theorem dX12_comes_153 : decode cX12_comes 153 = .ok (.dup2, 1) := by decide +kernel
theorem dX12_comes_154 : decode cX12_comes 154 = .ok (.iaload, 1) := by decide +kernel
theorem dX12_comes_155 : decode cX12_comes 155 = .ok (.iconst 1, 1) := by decide +kernel
theorem dX12_comes_156 : decode cX12_comes 156 = .ok (.iadd, 1) := by decide +kernel
theorem dX12_comes_157 : decode cX12_comes 157 = .ok (.iastore, 1) := by decide +kernel
theorem dX12_comes_158 : decode cX12_comes 158 = .ok (.iconst 1, 1) := by decide +kernel
theorem dX12_comes_159 : decode cX12_comes 159 = .ok (.ireturn, 1) := by decide +kernel
theorem dX12_comes_160 : decode cX12_comes 160 = .ok (.aload_n 0, 1) := by decide +kernel
theorem dX12_comes_161 : decode cX12_comes 161 = .ok (.getfield 16, 3) := by decide +kernel
theorem dX12_comes_164 : decode cX12_comes 164 = .ok (.iconst 0, 1) := by decide +kernel
theorem dX12_comes_165 : decode cX12_comes 165 = .ok (.iaload, 1) := by decide +kernel
theorem dX12_comes_166 : decode cX12_comes 166 = .ok (.iload_n 2, 1) := by decide +kernel
theorem dX12_comes_167 : decode cX12_comes 167 = .ok (.ishr, 1) := by decide +kernel
theorem dX12_comes_168 : decode cX12_comes 168 = .ok (.iconst 1, 1) := by decide +kernel
theorem dX12_comes_169 : decode cX12_comes 169 = .ok (.iand, 1) := by decide +kernel
theorem dX12_comes_170 : decode cX12_comes 170 = .ok (.iconst 1, 1) := by decide +kernel
theorem dX12_comes_171 : decode cX12_comes 171 = .ok (.if_icmp .ne 5, 3) := by decide +kernel
theorem dX12_comes_174 : decode cX12_comes 174 = .ok (.iconst 0, 1) := by decide +kernel
theorem dX12_comes_175 : decode cX12_comes 175 = .ok (.ireturn, 1) := by decide +kernel
theorem dX12_comes_176 : decode cX12_comes 176 = .ok (.aload_n 0, 1) := by decide +kernel
theorem dX12_comes_177 : decode cX12_comes 177 = .ok (.getfield 16, 3) := by decide +kernel
theorem dX12_comes_180 : decode cX12_comes 180 = .ok (.iconst 0, 1) := by decide +kernel
theorem dX12_comes_181 : decode cX12_comes 181 = .ok (.dup2, 1) := by decide +kernel
theorem dX12_comes_182 : decode cX12_comes 182 = .ok (.iaload, 1) := by decide +kernel
theorem dX12_comes_183 : decode cX12_comes 183 = .ok (.iconst 1, 1) := by decide +kernel
theorem dX12_comes_184 : decode cX12_comes 184 = .ok (.iload_n 2, 1) := by decide +kernel
theorem dX12_comes_185 : decode cX12_comes 185 = .ok (.ishl, 1) := by decide +kernel
theorem dX12_comes_186 : decode cX12_comes 186 = .ok (.ior, 1) := by decide +kernel
theorem dX12_comes_187 : decode cX12_comes 187 = .ok (.iastore, 1) := by decide +kernel
theorem dX12_comes_188 : decode cX12_comes 188 = .ok (.iconst 1, 1) := by decide +kernel
theorem dX12_comes_189 : decode cX12_comes 189 = .ok (.ireturn, 1) := by decide +kernel
theorem dX12_comes_190 : decode cX12_comes 190 = .ok (.aload_n 0, 1) := by decide +kernel
theorem dX12_comes_191 : decode cX12_comes 191 = .ok (.getfield 16, 3) := by decide +kernel
theorem dX12_comes_194 : decode cX12_comes 194 = .ok (.iconst 1, 1) := by decide +kernel
theorem dX12_comes_195 : decode cX12_comes 195 = .ok (.iload_n 2, 1) := by decide +kernel
theorem dX12_comes_196 : decode cX12_comes 196 = .ok (.iastore, 1) := by decide +kernel
theorem dX12_comes_197 : decode cX12_comes 197 = .ok (.iconst 1, 1) := by decide +kernel
theorem dX12_comes_198 : decode cX12_comes 198 = .ok (.ireturn, 1) := by decide +kernel
theorem dX12_comes_199 : decode cX12_comes 199 = .ok (.aload_n 0, 1) := by decide +kernel
theorem dX12_comes_200 : decode cX12_comes 200 = .ok (.getfield 16, 3) := by decide +kernel
theorem dX12_comes_203 : decode cX12_comes 203 = .ok (.iconst 3, 1) := by decide +kernel
theorem dX12_comes_204 : decode cX12_comes 204 = .ok (.iload_n 2, 1) := by decide +kernel
theorem dX12_comes_205 : decode cX12_comes 205 = .ok (.iastore, 1) := by decide +kernel
theorem dX12_comes_206 : decode cX12_comes 206 = .ok (.iload_n 2, 1) := by decide +kernel
theorem dX12_comes_207 : decode cX12_comes 207 = .ok (.iconst 3, 1) := by decide +kernel
theorem dX12_comes_208 : decode cX12_comes 208 = .ok (.if_icmp .ge 7, 3) := by decide +kernel
theorem dX12_comes_211 : decode cX12_comes 211 = .ok (.iconst 1, 1) := by decide +kernel
theorem dX12_comes_212 : decode cX12_comes 212 = .ok (.goto 4, 3) := by decide +kernel
theorem dX12_comes_215 : decode cX12_comes 215 = .ok (.iconst 0, 1) := by decide +kernel
theorem dX12_comes_216 : decode cX12_comes 216 = .ok (.ireturn, 1) := by decide +kernel
theorem dX12_comes_217 : decode cX12_comes 217 = .ok (.aload_n 0, 1) := by decide +kernel
theorem dX12_comes_218 : decode cX12_comes 218 = .ok (.getfield 16, 3) := by decide +kernel
theorem dX12_comes_221 : decode cX12_comes 221 = .ok (.iconst 4, 1) := by decide +kernel
theorem dX12_comes_222 : decode cX12_comes 222 = .ok (.iload_n 2, 1) := by decide +kernel
theorem dX12_comes_223 : decode cX12_comes 223 = .ok (.iastore, 1) := by decide +kernel
theorem dX12_comes_224 : decode cX12_comes 224 = .ok (.aload_n 0, 1) := by decide +kernel
theorem dX12_comes_225 : decode cX12_comes 225 = .ok (.getfield 16, 3) := by decide +kernel
theorem dX12_comes_228 : decode cX12_comes 228 = .ok (.iconst 5, 1) := by decide +kernel
theorem dX12_comes_229 : decode cX12_comes 229 = .ok (.aload_n 0, 1) := by decide +kernel
theorem dX12_comes_230 : decode cX12_comes 230 = .ok (.getfield 37, 3) := by decide +kernel
theorem dX12_comes_233 : decode cX12_comes 233 = .ok (.iconst 1, 1) := by decide +kernel
theorem dX12_comes_234 : decode cX12_comes 234 = .ok (.iaload, 1) := by decide +kernel
theorem dX12_comes_235 : decode cX12_comes 235 = .ok (.iastore, 1) := by decide +kernel
theorem dX12_comes_236 : decode cX12_comes 236 = .ok (.iconst 1, 1) := by decide +kernel
theorem dX12_comes_237 : decode cX12_comes 237 = .ok (.ireturn, 1) := by decide +kernel
theorem dX12_wrongRow_0 : decode cX12_wrongRow 0 = .ok (.iload_n 1, 1) := by decide +kernel
theorem dX12_wrongRow_1 : decode cX12_wrongRow 1 = .ok (.invokestatic 123, 3) := by decide +kernel
theorem dX12_wrongRow_4 : decode cX12_wrongRow 4 = .ok (.ifCond .ne 7, 3) := by decide +kernel
theorem dX12_wrongRow_7 : decode cX12_wrongRow 7 = .ok (.iconst (-1), 1) := by decide +kernel
theorem dX12_wrongRow_8 : decode cX12_wrongRow 8 = .ok (.goto 47, 3) := by decide +kernel
theorem dX12_wrongRow_11 : decode cX12_wrongRow 11 = .ok (.aload_n 0, 1) := by decide +kernel
theorem dX12_wrongRow_12 : decode cX12_wrongRow 12 = .ok (.getfield 19, 3) := by decide +kernel
theorem dX12_wrongRow_15 : decode cX12_wrongRow 15 = .ok (.iload_n 1, 1) := by decide +kernel
theorem dX12_wrongRow_16 : decode cX12_wrongRow 16 = .ok (.iaload, 1) := by decide +kernel
theorem dX12_wrongRow_17 : decode cX12_wrongRow 17 = .ok (.ifCond .ne 8, 3) := by decide +kernel
theorem dX12_wrongRow_20 : decode cX12_wrongRow 20 = .ok (.bipush (-11), 2) := by decide +kernel
theorem dX12_wrongRow_22 : decode cX12_wrongRow 22 = .ok (.goto 33, 3) := by decide +kernel
theorem dX12_wrongRow_25 : decode cX12_wrongRow 25 = .ok (.aload_n 0, 1) := by decide +kernel
theorem dX12_wrongRow_26 : decode cX12_wrongRow 26 = .ok (.getfield 19, 3) := by decide +kernel
theorem dX12_wrongRow_29 : decode cX12_wrongRow 29 = .ok (.iload_n 1, 1) := by decide +kernel
theorem dX12_wrongRow_30 : decode cX12_wrongRow 30 = .ok (.iaload, 1) := by decide +kernel
theorem dX12_wrongRow_31 : decode cX12_wrongRow 31 = .ok (.iconst 2, 1) := by decide +kernel
theorem dX12_wrongRow_32 : decode cX12_wrongRow 32 = .ok (.if_icmp .ne 17, 3) := by decide +kernel
theorem dX12_wrongRow_35 : decode cX12_wrongRow 35 = .ok (.iload_n 2, 1) := by decide +kernel
theorem dX12_wrongRow_36 : decode cX12_wrongRow 36 = .ok (.ifCond .lt 18, 3) := by decide +kernel
theorem dX12_wrongRow_39 : decode cX12_wrongRow 39 = .ok (.aload_n 0, 1) := by decide +kernel
theorem dX12_wrongRow_40 : decode cX12_wrongRow 40 = .ok (.getfield 22, 3) := by decide +kernel
theorem dX12_wrongRow_43 : decode cX12_wrongRow 43 = .ok (.iload_n 1, 1) := by decide +kernel
theorem dX12_wrongRow_44 : decode cX12_wrongRow 44 = .ok (.iaload, 1) := by decide +kernel
theorem dX12_wrongRow_45 : decode cX12_wrongRow 45 = .ok (.iload_n 2, 1) := by decide +kernel
theorem dX12_wrongRow_46 : decode cX12_wrongRow 46 = .ok (.if_icmp .eq 8, 3) := by decide +kernel
theorem dX12_wrongRow_49 : decode cX12_wrongRow 49 = .ok (.bipush (-12), 2) := by decide +kernel
theorem dX12_wrongRow_51 : decode cX12_wrongRow 51 = .ok (.goto 4, 3) := by decide +kernel
theorem dX12_wrongRow_54 : decode cX12_wrongRow 54 = .ok (.iconst 0, 1) := by decide +kernel
theorem dX12_wrongRow_55 : decode cX12_wrongRow 55 = .ok (.ireturn, 1) := by decide +kernel
theorem dX12_town_0 : decode cX12_town 0 = .ok (.aload_n 0, 1) := by decide +kernel
theorem dX12_town_1 : decode cX12_town 1 = .ok (.iload_n 1, 1) := by decide +kernel
theorem dX12_town_2 : decode cX12_town 2 = .ok (.iconst 0, 1) := by decide +kernel
theorem dX12_town_3 : decode cX12_town 3 = .ok (.invokevirtual 126, 3) := by decide +kernel
theorem dX12_town_6 : decode cX12_town 6 = .ok (.istore_n 2, 1) := by decide +kernel
theorem dX12_town_7 : decode cX12_town 7 = .ok (.iload_n 2, 1) := by decide +kernel
theorem dX12_town_8 : decode cX12_town 8 = .ok (.ifCond .eq 5, 3) := by decide +kernel
theorem dX12_town_11 : decode cX12_town 11 = .ok (.iload_n 2, 1) := by decide +kernel
theorem dX12_town_12 : decode cX12_town 12 = .ok (.ireturn, 1) := by decide +kernel
theorem dX12_town_13 : decode cX12_town 13 = .ok (.aload_n 0, 1) := by decide +kernel
theorem dX12_town_14 : decode cX12_town 14 = .ok (.bipush 100, 2) := by decide +kernel
theorem dX12_town_16 : decode cX12_town 16 = .ok (.iload_n 1, 1) := by decide +kernel
theorem dX12_town_17 : decode cX12_town 17 = .ok (.imul, 1) := by decide +kernel
theorem dX12_town_18 : decode cX12_town 18 = .ok (.putfield 79, 3) := by decide +kernel
theorem dX12_town_21 : decode cX12_town 21 = .ok (.aload_n 0, 1) := by decide +kernel
theorem dX12_town_22 : decode cX12_town 22 = .ok (.aload_n 0, 1) := by decide +kernel
theorem dX12_town_23 : decode cX12_town 23 = .ok (.getfield 25, 3) := by decide +kernel
theorem dX12_town_26 : decode cX12_town 26 = .ok (.iload_n 1, 1) := by decide +kernel
theorem dX12_town_27 : decode cX12_town 27 = .ok (.iaload, 1) := by decide +kernel
theorem dX12_town_28 : decode cX12_town 28 = .ok (.putfield 76, 3) := by decide +kernel
theorem dX12_town_31 : decode cX12_town 31 = .ok (.aload_n 0, 1) := by decide +kernel
theorem dX12_town_32 : decode cX12_town 32 = .ok (.iconst 0, 1) := by decide +kernel
theorem dX12_town_33 : decode cX12_town 33 = .ok (.putfield 73, 3) := by decide +kernel
theorem dX12_town_36 : decode cX12_town 36 = .ok (.iconst 0, 1) := by decide +kernel
theorem dX12_town_37 : decode cX12_town 37 = .ok (.istore_n 3, 1) := by decide +kernel
theorem dX12_town_38 : decode cX12_town 38 = .ok (.aload_n 0, 1) := by decide +kernel
theorem dX12_town_39 : decode cX12_town 39 = .ok (.invokevirtual 130, 3) := by decide +kernel
theorem dX12_town_42 : decode cX12_town 42 = .ok (.ifCond .ne 12, 3) := by decide +kernel
theorem dX12_town_45 : decode cX12_town 45 = .ok (.sipush (-1000), 3) := by decide +kernel
theorem dX12_town_48 : decode cX12_town 48 = .ok (.aload_n 0, 1) := by decide +kernel
theorem dX12_town_49 : decode cX12_town 49 = .ok (.getfield 73, 3) := by decide +kernel
theorem dX12_town_52 : decode cX12_town 52 = .ok (.isub, 1) := by decide +kernel
theorem dX12_town_53 : decode cX12_town 53 = .ok (.ireturn, 1) := by decide +kernel
theorem dX12_town_54 : decode cX12_town 54 = .ok (.iinc 3 1, 3) := by decide +kernel
theorem dX12_town_57 : decode cX12_town 57 = .ok (.aload_n 0, 1) := by decide +kernel
theorem dX12_town_58 : decode cX12_town 58 = .ok (.getfield 73, 3) := by decide +kernel
theorem dX12_town_61 : decode cX12_town 61 = .ok (.aload_n 0, 1) := by decide +kernel
theorem dX12_town_62 : decode cX12_town 62 = .ok (.getfield 76, 3) := by decide +kernel
theorem dX12_town_65 : decode cX12_town 65 = .ok (.if_icmp .lt (-27), 3) := by decide +kernel
theorem dX12_town_68 : decode cX12_town 68 = .ok (.iconst 0, 1) := by decide +kernel
theorem dX12_town_69 : decode cX12_town 69 = .ok (.istore 4, 2) := by decide +kernel
theorem dX12_town_71 : decode cX12_town 71 = .ok (.iload 4, 2) := by decide +kernel
theorem dX12_town_73 : decode cX12_town 73 = .ok (.bipush 47, 2) := by decide +kernel
theorem dX12_town_75 : decode cX12_town 75 = .ok (.if_icmp .ge 23, 3) := by decide +kernel
theorem dX12_town_78 : decode cX12_town 78 = .ok (.aload_n 0, 1) := by decide +kernel
theorem dX12_town_79 : decode cX12_town 79 = .ok (.getfield 16, 3) := by decide +kernel
theorem dX12_town_82 : decode cX12_town 82 = .ok (.iload 4, 2) := by decide +kernel
theorem dX12_town_84 : decode cX12_town 84 = .ok (.aload_n 0, 1) := by decide +kernel
theorem dX12_town_85 : decode cX12_town 85 = .ok (.getfield 9, 3) := by decide +kernel
theorem dX12_town_88 : decode cX12_town 88 = .ok (.iload 4, 2) := by decide +kernel
theorem dX12_town_90 : decode cX12_town 90 = .ok (.iaload, 1) := by decide +kernel
theorem dX12_town_91 : decode cX12_town 91 = .ok (.iastore, 1) := by decide +kernel
theorem dX12_town_92 : decode cX12_town 92 = .ok (.iinc 4 1, 3) := by decide +kernel
theorem dX12_town_95 : decode cX12_town 95 = .ok (.goto (-24), 3) := by decide +kernel
theorem dX12_town_98 : decode cX12_town 98 = .ok (.aload_n 0, 1) := by decide +kernel
theorem dX12_town_99 : decode cX12_town 99 = .ok (.iconst 0, 1) := by decide +kernel
theorem dX12_town_100 : decode cX12_town 100 = .ok (.putfield 73, 3) := by decide +kernel
theorem dX12_town_103 : decode cX12_town 103 = .ok (.aload_n 0, 1) := by decide +kernel
theorem dX12_town_104 : decode cX12_town 104 = .ok (.getfield 73, 3) := by decide +kernel
theorem dX12_town_107 : decode cX12_town 107 = .ok (.aload_n 0, 1) := by decide +kernel
theorem dX12_town_108 : decode cX12_town 108 = .ok (.getfield 76, 3) := by decide +kernel
theorem dX12_town_111 : decode cX12_town 111 = .ok (.if_icmp .ge 40, 3) := by decide +kernel
theorem dX12_town_114 : decode cX12_town 114 = .ok (.aload_n 0, 1) := by decide +kernel
theorem dX12_town_115 : decode cX12_town 115 = .ok (.getfield 73, 3) := by decide +kernel
theorem dX12_town_118 : decode cX12_town 118 = .ok (.istore 4, 2) := by decide +kernel
theorem dX12_town_120 : decode cX12_town 120 = .ok (.aload_n 0, 1) := by decide +kernel
theorem dX12_town_121 : decode cX12_town 121 = .ok (.invokevirtual 82, 3) := by decide +kernel
theorem dX12_town_124 : decode cX12_town 124 = .ok (.istore 5, 2) := by decide +kernel
theorem dX12_town_126 : decode cX12_town 126 = .ok (.aload_n 0, 1) := by decide +kernel
theorem dX12_town_127 : decode cX12_town 127 = .ok (.invokevirtual 130, 3) := by decide +kernel
theorem dX12_town_130 : decode cX12_town 130 = .ok (.istore 6, 2) := by decide +kernel
theorem dX12_town_132 : decode cX12_town 132 = .ok (.aload_n 0, 1) := by decide +kernel
theorem dX12_town_133 : decode cX12_town 133 = .ok (.iload 5, 2) := by decide +kernel
theorem dX12_town_135 : decode cX12_town 135 = .ok (.invokevirtual 133, 3) := by decide +kernel
theorem dX12_town_138 : decode cX12_town 138 = .ok (.ifCond .ne 10, 3) := by decide +kernel
theorem dX12_town_141 : decode cX12_town 141 = .ok (.sipush (-2000), 3) := by decide +kernel
theorem dX12_town_144 : decode cX12_town 144 = .ok (.iload 4, 2) := by decide +kernel
theorem dX12_town_146 : decode cX12_town 146 = .ok (.isub, 1) := by decide +kernel
theorem dX12_town_147 : decode cX12_town 147 = .ok (.ireturn, 1) := by decide +kernel
theorem dX12_town_148 : decode cX12_town 148 = .ok (.goto (-45), 3) := by decide +kernel
theorem dX12_town_151 : decode cX12_town 151 = .ok (.iconst 0, 1) := by decide +kernel
theorem dX12_town_152 : decode cX12_town 152 = .ok (.istore 4, 2) := by decide +kernel
theorem dX12_town_154 : decode cX12_town 154 = .ok (.iload 4, 2) := by decide +kernel
theorem dX12_town_156 : decode cX12_town 156 = .ok (.bipush 47, 2) := by decide +kernel
theorem dX12_town_158 : decode cX12_town 158 = .ok (.if_icmp .ge 23, 3) := by decide +kernel
theorem dX12_town_161 : decode cX12_town 161 = .ok (.aload_n 0, 1) := by decide +kernel
theorem dX12_town_162 : decode cX12_town 162 = .ok (.getfield 9, 3) := by decide +kernel
theorem dX12_town_165 : decode cX12_town 165 = .ok (.iload 4, 2) := by decide +kernel
theorem dX12_town_167 : decode cX12_town 167 = .ok (.aload_n 0, 1) := by decide +kernel
theorem dX12_town_168 : decode cX12_town 168 = .ok (.getfield 16, 3) := by decide +kernel
theorem dX12_town_171 : decode cX12_town 171 = .ok (.iload 4, 2) := by decide +kernel
theorem dX12_town_173 : decode cX12_town 173 = .ok (.iaload, 1) := by decide +kernel
theorem dX12_town_174 : decode cX12_town 174 = .ok (.iastore, 1) := by decide +kernel
theorem dX12_town_175 : decode cX12_town 175 = .ok (.iinc 4 1, 3) := by decide +kernel
theorem dX12_town_178 : decode cX12_town 178 = .ok (.goto (-24), 3) := by decide +kernel
theorem dX12_town_181 : decode cX12_town 181 = .ok (.iload_n 3, 1) := by decide +kernel
theorem dX12_town_182 : decode cX12_town 182 = .ok (.ireturn, 1) := by decide +kernel
theorem dX12_costOf_0 : decode cX12_costOf 0 = .ok (.aload_n 0, 1) := by decide +kernel
theorem dX12_costOf_1 : decode cX12_costOf 1 = .ok (.iload_n 1, 1) := by decide +kernel
theorem dX12_costOf_2 : decode cX12_costOf 2 = .ok (.iconst 3, 1) := by decide +kernel
theorem dX12_costOf_3 : decode cX12_costOf 3 = .ok (.invokevirtual 136, 3) := by decide +kernel
theorem dX12_costOf_6 : decode cX12_costOf 6 = .ok (.istore_n 2, 1) := by decide +kernel
theorem dX12_costOf_7 : decode cX12_costOf 7 = .ok (.aload_n 0, 1) := by decide +kernel
theorem dX12_costOf_8 : decode cX12_costOf 8 = .ok (.iload_n 1, 1) := by decide +kernel
theorem dX12_costOf_9 : decode cX12_costOf 9 = .ok (.iconst 0, 1) := by decide +kernel
theorem dX12_costOf_10 : decode cX12_costOf 10 = .ok (.invokevirtual 136, 3) := by decide +kernel
theorem dX12_costOf_13 : decode cX12_costOf 13 = .ok (.tableswitch 69 1 7 #[43, 69, 52, 56, 58, 69, 56], 43) := by decide +kernel
theorem dX12_costOf_56 : decode cX12_costOf 56 = .ok (.iload_n 2, 1) := by decide +kernel
theorem dX12_costOf_57 : decode cX12_costOf 57 = .ok (.aload_n 0, 1) := by decide +kernel
theorem dX12_costOf_58 : decode cX12_costOf 58 = .ok (.iload_n 1, 1) := by decide +kernel
theorem dX12_costOf_59 : decode cX12_costOf 59 = .ok (.iconst 4, 1) := by decide +kernel
theorem dX12_costOf_60 : decode cX12_costOf 60 = .ok (.invokevirtual 136, 3) := by decide +kernel
theorem dX12_costOf_63 : decode cX12_costOf 63 = .ok (.iadd, 1) := by decide +kernel
theorem dX12_costOf_64 : decode cX12_costOf 64 = .ok (.ireturn, 1) := by decide +kernel
theorem dX12_costOf_65 : decode cX12_costOf 65 = .ok (.iload_n 2, 1) := by decide +kernel
theorem dX12_costOf_66 : decode cX12_costOf 66 = .ok (.iconst 2, 1) := by decide +kernel
theorem dX12_costOf_67 : decode cX12_costOf 67 = .ok (.idiv, 1) := by decide +kernel
theorem dX12_costOf_68 : decode cX12_costOf 68 = .ok (.ireturn, 1) := by decide +kernel
theorem dX12_costOf_69 : decode cX12_costOf 69 = .ok (.iconst 0, 1) := by decide +kernel
theorem dX12_costOf_70 : decode cX12_costOf 70 = .ok (.ireturn, 1) := by decide +kernel
theorem dX12_costOf_71 : decode cX12_costOf 71 = .ok (.iload_n 2, 1) := by decide +kernel
theorem dX12_costOf_72 : decode cX12_costOf 72 = .ok (.aload_n 0, 1) := by decide +kernel
theorem dX12_costOf_73 : decode cX12_costOf 73 = .ok (.iload_n 1, 1) := by decide +kernel
theorem dX12_costOf_74 : decode cX12_costOf 74 = .ok (.iconst 4, 1) := by decide +kernel
theorem dX12_costOf_75 : decode cX12_costOf 75 = .ok (.invokevirtual 136, 3) := by decide +kernel
theorem dX12_costOf_78 : decode cX12_costOf 78 = .ok (.iadd, 1) := by decide +kernel
theorem dX12_costOf_79 : decode cX12_costOf 79 = .ok (.iconst 5, 1) := by decide +kernel
theorem dX12_costOf_80 : decode cX12_costOf 80 = .ok (.iadd, 1) := by decide +kernel
theorem dX12_costOf_81 : decode cX12_costOf 81 = .ok (.ireturn, 1) := by decide +kernel
theorem dX12_costOf_82 : decode cX12_costOf 82 = .ok (.iload_n 2, 1) := by decide +kernel
theorem dX12_costOf_83 : decode cX12_costOf 83 = .ok (.ireturn, 1) := by decide +kernel
theorem dX12_backOf_0 : decode cX12_backOf 0 = .ok (.aload_n 0, 1) := by decide +kernel
theorem dX12_backOf_1 : decode cX12_backOf 1 = .ok (.iload_n 1, 1) := by decide +kernel
theorem dX12_backOf_2 : decode cX12_backOf 2 = .ok (.iconst 0, 1) := by decide +kernel
theorem dX12_backOf_3 : decode cX12_backOf 3 = .ok (.invokevirtual 136, 3) := by decide +kernel
theorem dX12_backOf_6 : decode cX12_backOf 6 = .ok (.tableswitch 59 1 7 #[42, 50, 52, 50, 42, 59, 50], 42) := by decide +kernel
theorem dX12_backOf_48 : decode cX12_backOf 48 = .ok (.aload_n 0, 1) := by decide +kernel
theorem dX12_backOf_49 : decode cX12_backOf 49 = .ok (.iload_n 1, 1) := by decide +kernel
theorem dX12_backOf_50 : decode cX12_backOf 50 = .ok (.invokevirtual 139, 3) := by decide +kernel
theorem dX12_backOf_53 : decode cX12_backOf 53 = .ok (.iconst 2, 1) := by decide +kernel
theorem dX12_backOf_54 : decode cX12_backOf 54 = .ok (.idiv, 1) := by decide +kernel
theorem dX12_backOf_55 : decode cX12_backOf 55 = .ok (.ireturn, 1) := by decide +kernel
theorem dX12_backOf_56 : decode cX12_backOf 56 = .ok (.iconst 0, 1) := by decide +kernel
theorem dX12_backOf_57 : decode cX12_backOf 57 = .ok (.ireturn, 1) := by decide +kernel
theorem dX12_backOf_58 : decode cX12_backOf 58 = .ok (.aload_n 0, 1) := by decide +kernel
theorem dX12_backOf_59 : decode cX12_backOf 59 = .ok (.iload_n 1, 1) := by decide +kernel
theorem dX12_backOf_60 : decode cX12_backOf 60 = .ok (.iconst 4, 1) := by decide +kernel
theorem dX12_backOf_61 : decode cX12_backOf 61 = .ok (.invokevirtual 136, 3) := by decide +kernel
theorem dX12_backOf_64 : decode cX12_backOf 64 = .ok (.ireturn, 1) := by decide +kernel
theorem dX12_backOf_65 : decode cX12_backOf 65 = .ok (.aload_n 0, 1) := by decide +kernel
theorem dX12_backOf_66 : decode cX12_backOf 66 = .ok (.iload_n 1, 1) := by decide +kernel
theorem dX12_backOf_67 : decode cX12_backOf 67 = .ok (.invokevirtual 139, 3) := by decide +kernel
theorem dX12_backOf_70 : decode cX12_backOf 70 = .ok (.ireturn, 1) := by decide +kernel
theorem dX12_isKept_0 : decode cX12_isKept 0 = .ok (.aload_n 0, 1) := by decide +kernel
theorem dX12_isKept_1 : decode cX12_isKept 1 = .ok (.iload_n 1, 1) := by decide +kernel
theorem dX12_isKept_2 : decode cX12_isKept 2 = .ok (.iconst 0, 1) := by decide +kernel
theorem dX12_isKept_3 : decode cX12_isKept 3 = .ok (.invokevirtual 136, 3) := by decide +kernel
theorem dX12_isKept_6 : decode cX12_isKept 6 = .ok (.istore_n 2, 1) := by decide +kernel
theorem dX12_isKept_7 : decode cX12_isKept 7 = .ok (.iload_n 2, 1) := by decide +kernel
theorem dX12_isKept_8 : decode cX12_isKept 8 = .ok (.iconst 5, 1) := by decide +kernel
theorem dX12_isKept_9 : decode cX12_isKept 9 = .ok (.if_icmp .ne 22, 3) := by decide +kernel
theorem dX12_isKept_12 : decode cX12_isKept 12 = .ok (.aload_n 0, 1) := by decide +kernel
theorem dX12_isKept_13 : decode cX12_isKept 13 = .ok (.iload_n 1, 1) := by decide +kernel
theorem dX12_isKept_14 : decode cX12_isKept 14 = .ok (.iconst 4, 1) := by decide +kernel
theorem dX12_isKept_15 : decode cX12_isKept 15 = .ok (.invokevirtual 136, 3) := by decide +kernel
theorem dX12_isKept_18 : decode cX12_isKept 18 = .ok (.bipush 9, 2) := by decide +kernel
theorem dX12_isKept_20 : decode cX12_isKept 20 = .ok (.if_icmp .ne 7, 3) := by decide +kernel
theorem dX12_isKept_23 : decode cX12_isKept 23 = .ok (.iconst 1, 1) := by decide +kernel
theorem dX12_isKept_24 : decode cX12_isKept 24 = .ok (.goto 33, 3) := by decide +kernel
theorem dX12_isKept_27 : decode cX12_isKept 27 = .ok (.iconst 0, 1) := by decide +kernel
theorem dX12_isKept_28 : decode cX12_isKept 28 = .ok (.goto 29, 3) := by decide +kernel
theorem dX12_isKept_31 : decode cX12_isKept 31 = .ok (.iload_n 2, 1) := by decide +kernel
theorem dX12_isKept_32 : decode cX12_isKept 32 = .ok (.iconst 4, 1) := by decide +kernel
theorem dX12_isKept_33 : decode cX12_isKept 33 = .ok (.if_icmp .eq 9, 3) := by decide +kernel
theorem dX12_isKept_36 : decode cX12_isKept 36 = .ok (.iload_n 2, 1) := by decide +kernel
theorem dX12_isKept_37 : decode cX12_isKept 37 = .ok (.bipush 7, 2) := by decide +kernel
theorem dX12_isKept_39 : decode cX12_isKept 39 = .ok (.if_icmp .ne 17, 3) := by decide +kernel
theorem dX12_isKept_42 : decode cX12_isKept 42 = .ok (.aload_n 0, 1) := by decide +kernel
theorem dX12_isKept_43 : decode cX12_isKept 43 = .ok (.iload_n 1, 1) := by decide +kernel
theorem dX12_isKept_44 : decode cX12_isKept 44 = .ok (.iconst 4, 1) := by decide +kernel
theorem dX12_isKept_45 : decode cX12_isKept 45 = .ok (.invokevirtual 136, 3) := by decide +kernel
theorem dX12_isKept_48 : decode cX12_isKept 48 = .ok (.iconst 5, 1) := by decide +kernel
theorem dX12_isKept_49 : decode cX12_isKept 49 = .ok (.if_icmp .lt 7, 3) := by decide +kernel
theorem dX12_isKept_52 : decode cX12_isKept 52 = .ok (.iconst 1, 1) := by decide +kernel
theorem dX12_isKept_53 : decode cX12_isKept 53 = .ok (.goto 4, 3) := by decide +kernel
theorem dX12_isKept_56 : decode cX12_isKept 56 = .ok (.iconst 0, 1) := by decide +kernel
theorem dX12_isKept_57 : decode cX12_isKept 57 = .ok (.ireturn, 1) := by decide +kernel
theorem dX12_marksBy_0 : decode cX12_marksBy 0 = .ok (.iconst 1, 1) := by decide +kernel
theorem dX12_marksBy_1 : decode cX12_marksBy 1 = .ok (.aload_n 0, 1) := by decide +kernel
theorem dX12_marksBy_2 : decode cX12_marksBy 2 = .ok (.iload_n 1, 1) := by decide +kernel
theorem dX12_marksBy_3 : decode cX12_marksBy 3 = .ok (.iconst 2, 1) := by decide +kernel
theorem dX12_marksBy_4 : decode cX12_marksBy 4 = .ok (.invokevirtual 136, 3) := by decide +kernel
theorem dX12_marksBy_7 : decode cX12_marksBy 7 = .ok (.ishl, 1) := by decide +kernel
theorem dX12_marksBy_8 : decode cX12_marksBy 8 = .ok (.istore_n 3, 1) := by decide +kernel
theorem dX12_marksBy_9 : decode cX12_marksBy 9 = .ok (.aload_n 0, 1) := by decide +kernel
theorem dX12_marksBy_10 : decode cX12_marksBy 10 = .ok (.iload_n 1, 1) := by decide +kernel
theorem dX12_marksBy_11 : decode cX12_marksBy 11 = .ok (.iconst 0, 1) := by decide +kernel
theorem dX12_marksBy_12 : decode cX12_marksBy 12 = .ok (.invokevirtual 136, 3) := by decide +kernel
theorem dX12_marksBy_15 : decode cX12_marksBy 15 = .ok (.lookupswitch 44 #[(6, 25), (7, 31)], 25) := by decide +kernel
theorem dX12_marksBy_40 : decode cX12_marksBy 40 = .ok (.iload_n 2, 1) := by decide +kernel
theorem dX12_marksBy_41 : decode cX12_marksBy 41 = .ok (.iload_n 3, 1) := by decide +kernel
theorem dX12_marksBy_42 : decode cX12_marksBy 42 = .ok (.iconst (-1), 1) := by decide +kernel
theorem dX12_marksBy_43 : decode cX12_marksBy 43 = .ok (.ixor, 1) := by decide +kernel
theorem dX12_marksBy_44 : decode cX12_marksBy 44 = .ok (.iand, 1) := by decide +kernel
theorem dX12_marksBy_45 : decode cX12_marksBy 45 = .ok (.ireturn, 1) := by decide +kernel
theorem dX12_marksBy_46 : decode cX12_marksBy 46 = .ok (.iload_n 2, 1) := by decide +kernel
theorem dX12_marksBy_47 : decode cX12_marksBy 47 = .ok (.iload_n 3, 1) := by decide +kernel
theorem dX12_marksBy_48 : decode cX12_marksBy 48 = .ok (.ior, 1) := by decide +kernel
theorem dX12_marksBy_49 : decode cX12_marksBy 49 = .ok (.iconst 1, 1) := by decide +kernel
theorem dX12_marksBy_50 : decode cX12_marksBy 50 = .ok (.aload_n 0, 1) := by decide +kernel
theorem dX12_marksBy_51 : decode cX12_marksBy 51 = .ok (.iload_n 1, 1) := by decide +kernel
theorem dX12_marksBy_52 : decode cX12_marksBy 52 = .ok (.iconst 4, 1) := by decide +kernel
theorem dX12_marksBy_53 : decode cX12_marksBy 53 = .ok (.invokevirtual 136, 3) := by decide +kernel
theorem dX12_marksBy_56 : decode cX12_marksBy 56 = .ok (.ishl, 1) := by decide +kernel
theorem dX12_marksBy_57 : decode cX12_marksBy 57 = .ok (.ior, 1) := by decide +kernel
theorem dX12_marksBy_58 : decode cX12_marksBy 58 = .ok (.ireturn, 1) := by decide +kernel
theorem dX12_marksBy_59 : decode cX12_marksBy 59 = .ok (.iload_n 2, 1) := by decide +kernel
theorem dX12_marksBy_60 : decode cX12_marksBy 60 = .ok (.iload_n 3, 1) := by decide +kernel
theorem dX12_marksBy_61 : decode cX12_marksBy 61 = .ok (.ior, 1) := by decide +kernel
theorem dX12_marksBy_62 : decode cX12_marksBy 62 = .ok (.ireturn, 1) := by decide +kernel
theorem dX12_mayBy_0 : decode cX12_mayBy 0 = .ok (.aload_n 0, 1) := by decide +kernel
theorem dX12_mayBy_1 : decode cX12_mayBy 1 = .ok (.iload_n 1, 1) := by decide +kernel
theorem dX12_mayBy_2 : decode cX12_mayBy 2 = .ok (.iconst 1, 1) := by decide +kernel
theorem dX12_mayBy_3 : decode cX12_mayBy 3 = .ok (.invokevirtual 136, 3) := by decide +kernel
theorem dX12_mayBy_6 : decode cX12_mayBy 6 = .ok (.iload_n 2, 1) := by decide +kernel
theorem dX12_mayBy_7 : decode cX12_mayBy 7 = .ok (.iconst (-1), 1) := by decide +kernel
theorem dX12_mayBy_8 : decode cX12_mayBy 8 = .ok (.ixor, 1) := by decide +kernel
theorem dX12_mayBy_9 : decode cX12_mayBy 9 = .ok (.iand, 1) := by decide +kernel
theorem dX12_mayBy_10 : decode cX12_mayBy 10 = .ok (.ifCond .ne 16, 3) := by decide +kernel
theorem dX12_mayBy_13 : decode cX12_mayBy 13 = .ok (.iload_n 3, 1) := by decide +kernel
theorem dX12_mayBy_14 : decode cX12_mayBy 14 = .ok (.aload_n 0, 1) := by decide +kernel
theorem dX12_mayBy_15 : decode cX12_mayBy 15 = .ok (.iload_n 1, 1) := by decide +kernel
theorem dX12_mayBy_16 : decode cX12_mayBy 16 = .ok (.invokevirtual 139, 3) := by decide +kernel
theorem dX12_mayBy_19 : decode cX12_mayBy 19 = .ok (.if_icmp .lt 7, 3) := by decide +kernel
theorem dX12_mayBy_22 : decode cX12_mayBy 22 = .ok (.iconst 1, 1) := by decide +kernel
theorem dX12_mayBy_23 : decode cX12_mayBy 23 = .ok (.goto 4, 3) := by decide +kernel
theorem dX12_mayBy_26 : decode cX12_mayBy 26 = .ok (.iconst 0, 1) := by decide +kernel
theorem dX12_mayBy_27 : decode cX12_mayBy 27 = .ok (.ireturn, 1) := by decide +kernel
theorem dX12_deed_0 : decode cX12_deed 0 = .ok (.aload_n 0, 1) := by decide +kernel
theorem dX12_deed_1 : decode cX12_deed 1 = .ok (.iload_n 1, 1) := by decide +kernel
theorem dX12_deed_2 : decode cX12_deed 2 = .ok (.invokevirtual 143, 3) := by decide +kernel
theorem dX12_deed_5 : decode cX12_deed 5 = .ok (.ifCond .ne 5, 3) := by decide +kernel
theorem dX12_deed_8 : decode cX12_deed 8 = .ok (.iconst (-1), 1) := by decide +kernel
theorem dX12_deed_9 : decode cX12_deed 9 = .ok (.ireturn, 1) := by decide +kernel
theorem dX12_deed_10 : decode cX12_deed 10 = .ok (.iload_n 2, 1) := by decide +kernel
theorem dX12_deed_11 : decode cX12_deed 11 = .ok (.i2l, 1) := by decide +kernel
theorem dX12_deed_12 : decode cX12_deed 12 = .ok (.lconst 0, 1) := by decide +kernel
theorem dX12_deed_13 : decode cX12_deed 13 = .ok (.ldc2_w 146, 3) := by decide +kernel
theorem dX12_deed_16 : decode cX12_deed 16 = .ok (.invokestatic 65, 3) := by decide +kernel
theorem dX12_deed_19 : decode cX12_deed 19 = .ok (.ifCond .eq 10, 3) := by decide +kernel
theorem dX12_deed_22 : decode cX12_deed 22 = .ok (.aload_n 0, 1) := by decide +kernel
theorem dX12_deed_23 : decode cX12_deed 23 = .ok (.iload_n 1, 1) := by decide +kernel
theorem dX12_deed_24 : decode cX12_deed 24 = .ok (.iload_n 2, 1) := by decide +kernel
theorem dX12_deed_25 : decode cX12_deed 25 = .ok (.invokevirtual 136, 3) := by decide +kernel
theorem dX12_deed_28 : decode cX12_deed 28 = .ok (.ireturn, 1) := by decide +kernel
theorem dX12_deed_29 : decode cX12_deed 29 = .ok (.iload_n 2, 1) := by decide +kernel
theorem dX12_deed_30 : decode cX12_deed 30 = .ok (.iconst 5, 1) := by decide +kernel
theorem dX12_deed_31 : decode cX12_deed 31 = .ok (.if_icmp .ne 11, 3) := by decide +kernel
theorem dX12_deed_34 : decode cX12_deed 34 = .ok (.aload_n 0, 1) := by decide +kernel
theorem dX12_deed_35 : decode cX12_deed 35 = .ok (.iload_n 1, 1) := by decide +kernel
theorem dX12_deed_36 : decode cX12_deed 36 = .ok (.invokevirtual 139, 3) := by decide +kernel
theorem dX12_deed_39 : decode cX12_deed 39 = .ok (.goto 40, 3) := by decide +kernel
theorem dX12_deed_42 : decode cX12_deed 42 = .ok (.iload_n 2, 1) := by decide +kernel
theorem dX12_deed_43 : decode cX12_deed 43 = .ok (.bipush 6, 2) := by decide +kernel
theorem dX12_deed_45 : decode cX12_deed 45 = .ok (.if_icmp .ne 11, 3) := by decide +kernel
theorem dX12_deed_48 : decode cX12_deed 48 = .ok (.aload_n 0, 1) := by decide +kernel
theorem dX12_deed_49 : decode cX12_deed 49 = .ok (.iload_n 1, 1) := by decide +kernel
theorem dX12_deed_50 : decode cX12_deed 50 = .ok (.invokevirtual 148, 3) := by decide +kernel
theorem dX12_deed_53 : decode cX12_deed 53 = .ok (.goto 26, 3) := by decide +kernel
theorem dX12_deed_56 : decode cX12_deed 56 = .ok (.iload_n 2, 1) := by decide +kernel
theorem dX12_deed_57 : decode cX12_deed 57 = .ok (.bipush 7, 2) := by decide +kernel
theorem dX12_deed_59 : decode cX12_deed 59 = .ok (.if_icmp .ne 19, 3) := by decide +kernel
theorem dX12_deed_62 : decode cX12_deed 62 = .ok (.aload_n 0, 1) := by decide +kernel
theorem dX12_deed_63 : decode cX12_deed 63 = .ok (.iload_n 1, 1) := by decide +kernel
theorem dX12_deed_64 : decode cX12_deed 64 = .ok (.invokevirtual 151, 3) := by decide +kernel
theorem dX12_deed_67 : decode cX12_deed 67 = .ok (.ifCond .eq 7, 3) := by decide +kernel
theorem dX12_deed_70 : decode cX12_deed 70 = .ok (.iconst 1, 1) := by decide +kernel
theorem dX12_deed_71 : decode cX12_deed 71 = .ok (.goto 8, 3) := by decide +kernel
theorem dX12_deed_74 : decode cX12_deed 74 = .ok (.iconst 0, 1) := by decide +kernel
theorem dX12_deed_75 : decode cX12_deed 75 = .ok (.goto 4, 3) := by decide +kernel
theorem dX12_deed_78 : decode cX12_deed 78 = .ok (.iconst (-1), 1) := by decide +kernel
theorem dX12_deed_79 : decode cX12_deed 79 = .ok (.ireturn, 1) := by decide +kernel
theorem dX12_marks_0 : decode cX12_marks 0 = .ok (.aload_n 0, 1) := by decide +kernel
theorem dX12_marks_1 : decode cX12_marks 1 = .ok (.getfield 9, 3) := by decide +kernel
theorem dX12_marks_4 : decode cX12_marks 4 = .ok (.iconst 0, 1) := by decide +kernel
theorem dX12_marks_5 : decode cX12_marks 5 = .ok (.iaload, 1) := by decide +kernel
theorem dX12_marks_6 : decode cX12_marks 6 = .ok (.ireturn, 1) := by decide +kernel
theorem dX12_state_0 : decode cX12_state 0 = .ok (.iload_n 1, 1) := by decide +kernel
theorem dX12_state_1 : decode cX12_state 1 = .ok (.i2l, 1) := by decide +kernel
theorem dX12_state_2 : decode cX12_state 2 = .ok (.lconst 0, 1) := by decide +kernel
theorem dX12_state_3 : decode cX12_state 3 = .ok (.ldc2_w 154, 3) := by decide +kernel
theorem dX12_state_6 : decode cX12_state 6 = .ok (.invokestatic 65, 3) := by decide +kernel
theorem dX12_state_9 : decode cX12_state 9 = .ok (.ifCond .eq 14, 3) := by decide +kernel
theorem dX12_state_12 : decode cX12_state 12 = .ok (.aload_n 0, 1) := by decide +kernel
theorem dX12_state_13 : decode cX12_state 13 = .ok (.getfield 9, 3) := by decide +kernel
theorem dX12_state_16 : decode cX12_state 16 = .ok (.iconst 1, 1) := by decide +kernel
theorem dX12_state_17 : decode cX12_state 17 = .ok (.iload_n 1, 1) := by decide +kernel
theorem dX12_state_18 : decode cX12_state 18 = .ok (.iadd, 1) := by decide +kernel
theorem dX12_state_19 : decode cX12_state 19 = .ok (.iaload, 1) := by decide +kernel
theorem dX12_state_20 : decode cX12_state 20 = .ok (.goto 4, 3) := by decide +kernel
theorem dX12_state_23 : decode cX12_state 23 = .ok (.iconst (-1), 1) := by decide +kernel
theorem dX12_state_24 : decode cX12_state 24 = .ok (.ireturn, 1) := by decide +kernel
theorem dX12_rise_0 : decode cX12_rise 0 = .ok (.aload_n 0, 1) := by decide +kernel
theorem dX12_rise_1 : decode cX12_rise 1 = .ok (.getfield 9, 3) := by decide +kernel
theorem dX12_rise_4 : decode cX12_rise 4 = .ok (.iconst 5, 1) := by decide +kernel
theorem dX12_rise_5 : decode cX12_rise 5 = .ok (.iaload, 1) := by decide +kernel
theorem dX12_rise_6 : decode cX12_rise 6 = .ok (.ireturn, 1) := by decide +kernel
theorem dX12_set_0 : decode cX12_set 0 = .ok (.iload_n 1, 1) := by decide +kernel
theorem dX12_set_1 : decode cX12_set 1 = .ok (.i2l, 1) := by decide +kernel
theorem dX12_set_2 : decode cX12_set 2 = .ok (.lconst 0, 1) := by decide +kernel
theorem dX12_set_3 : decode cX12_set 3 = .ok (.ldc2_w 156, 3) := by decide +kernel
theorem dX12_set_6 : decode cX12_set 6 = .ok (.invokestatic 65, 3) := by decide +kernel
theorem dX12_set_9 : decode cX12_set 9 = .ok (.ifCond .eq 36, 3) := by decide +kernel
theorem dX12_set_12 : decode cX12_set 12 = .ok (.iload_n 2, 1) := by decide +kernel
theorem dX12_set_13 : decode cX12_set 13 = .ok (.i2l, 1) := by decide +kernel
theorem dX12_set_14 : decode cX12_set 14 = .ok (.lconst 0, 1) := by decide +kernel
theorem dX12_set_15 : decode cX12_set 15 = .ok (.iload_n 1, 1) := by decide +kernel
theorem dX12_set_16 : decode cX12_set 16 = .ok (.ifCond .ne 9, 3) := by decide +kernel
theorem dX12_set_19 : decode cX12_set 19 = .ok (.ldc2_w 156, 3) := by decide +kernel
theorem dX12_set_22 : decode cX12_set 22 = .ok (.goto 17, 3) := by decide +kernel
theorem dX12_set_25 : decode cX12_set 25 = .ok (.iload_n 1, 1) := by decide +kernel
theorem dX12_set_26 : decode cX12_set 26 = .ok (.iconst 1, 1) := by decide +kernel
theorem dX12_set_27 : decode cX12_set 27 = .ok (.if_icmp .ne 9, 3) := by decide +kernel
theorem dX12_set_30 : decode cX12_set 30 = .ok (.ldc2_w 158, 3) := by decide +kernel
theorem dX12_set_33 : decode cX12_set 33 = .ok (.goto 6, 3) := by decide +kernel
theorem dX12_set_36 : decode cX12_set 36 = .ok (.ldc2_w 160, 3) := by decide +kernel
theorem dX12_set_39 : decode cX12_set 39 = .ok (.invokestatic 65, 3) := by decide +kernel
theorem dX12_set_42 : decode cX12_set 42 = .ok (.ifCond .ne 5, 3) := by decide +kernel
theorem dX12_set_45 : decode cX12_set 45 = .ok (.iconst (-1), 1) := by decide +kernel
theorem dX12_set_46 : decode cX12_set 46 = .ok (.ireturn, 1) := by decide +kernel
theorem dX12_set_47 : decode cX12_set 47 = .ok (.iload_n 1, 1) := by decide +kernel
theorem dX12_set_48 : decode cX12_set 48 = .ok (.ifCond .ne 7, 3) := by decide +kernel
theorem dX12_set_51 : decode cX12_set 51 = .ok (.iconst 3, 1) := by decide +kernel
theorem dX12_set_52 : decode cX12_set 52 = .ok (.goto 13, 3) := by decide +kernel
theorem dX12_set_55 : decode cX12_set 55 = .ok (.iload_n 1, 1) := by decide +kernel
theorem dX12_set_56 : decode cX12_set 56 = .ok (.iconst 1, 1) := by decide +kernel
theorem dX12_set_57 : decode cX12_set 57 = .ok (.if_icmp .ne 7, 3) := by decide +kernel
theorem dX12_set_60 : decode cX12_set 60 = .ok (.iconst 4, 1) := by decide +kernel
theorem dX12_set_61 : decode cX12_set 61 = .ok (.goto 4, 3) := by decide +kernel
theorem dX12_set_64 : decode cX12_set 64 = .ok (.iconst 1, 1) := by decide +kernel
theorem dX12_set_65 : decode cX12_set 65 = .ok (.istore_n 3, 1) := by decide +kernel
theorem dX12_set_66 : decode cX12_set 66 = .ok (.aload_n 0, 1) := by decide +kernel
theorem dX12_set_67 : decode cX12_set 67 = .ok (.getfield 9, 3) := by decide +kernel
theorem dX12_set_70 : decode cX12_set 70 = .ok (.iload_n 3, 1) := by decide +kernel
theorem dX12_set_71 : decode cX12_set 71 = .ok (.iaload, 1) := by decide +kernel
theorem dX12_set_72 : decode cX12_set 72 = .ok (.istore 4, 2) := by decide +kernel
theorem dX12_set_74 : decode cX12_set 74 = .ok (.aload_n 0, 1) := by decide +kernel
theorem dX12_set_75 : decode cX12_set 75 = .ok (.getfield 9, 3) := by decide +kernel
theorem dX12_set_78 : decode cX12_set 78 = .ok (.iload_n 3, 1) := by decide +kernel
theorem dX12_set_79 : decode cX12_set 79 = .ok (.iload_n 2, 1) := by decide +kernel
theorem dX12_set_80 : decode cX12_set 80 = .ok (.iastore, 1) := by decide +kernel
theorem dX12_set_81 : decode cX12_set 81 = .ok (.iload 4, 2) := by decide +kernel
theorem dX12_set_83 : decode cX12_set 83 = .ok (.ireturn, 1) := by decide +kernel
theorem dX12_may_0 : decode cX12_may 0 = .ok (.aload_n 0, 1) := by decide +kernel
theorem dX12_may_1 : decode cX12_may 1 = .ok (.iload_n 1, 1) := by decide +kernel
theorem dX12_may_2 : decode cX12_may 2 = .ok (.invokevirtual 143, 3) := by decide +kernel
theorem dX12_may_5 : decode cX12_may 5 = .ok (.ifCond .ne 7, 3) := by decide +kernel
theorem dX12_may_8 : decode cX12_may 8 = .ok (.iconst (-1), 1) := by decide +kernel
theorem dX12_may_9 : decode cX12_may 9 = .ok (.goto 28, 3) := by decide +kernel
theorem dX12_may_12 : decode cX12_may 12 = .ok (.aload_n 0, 1) := by decide +kernel
theorem dX12_may_13 : decode cX12_may 13 = .ok (.iload_n 1, 1) := by decide +kernel
theorem dX12_may_14 : decode cX12_may 14 = .ok (.aload_n 0, 1) := by decide +kernel
theorem dX12_may_15 : decode cX12_may 15 = .ok (.getfield 9, 3) := by decide +kernel
theorem dX12_may_18 : decode cX12_may 18 = .ok (.iconst 0, 1) := by decide +kernel
theorem dX12_may_19 : decode cX12_may 19 = .ok (.iaload, 1) := by decide +kernel
theorem dX12_may_20 : decode cX12_may 20 = .ok (.aload_n 0, 1) := by decide +kernel
theorem dX12_may_21 : decode cX12_may 21 = .ok (.getfield 9, 3) := by decide +kernel
theorem dX12_may_24 : decode cX12_may 24 = .ok (.iconst 1, 1) := by decide +kernel
theorem dX12_may_25 : decode cX12_may 25 = .ok (.iaload, 1) := by decide +kernel
theorem dX12_may_26 : decode cX12_may 26 = .ok (.invokevirtual 162, 3) := by decide +kernel
theorem dX12_may_29 : decode cX12_may 29 = .ok (.ifCond .eq 7, 3) := by decide +kernel
theorem dX12_may_32 : decode cX12_may 32 = .ok (.iconst 1, 1) := by decide +kernel
theorem dX12_may_33 : decode cX12_may 33 = .ok (.goto 4, 3) := by decide +kernel
theorem dX12_may_36 : decode cX12_may 36 = .ok (.iconst 0, 1) := by decide +kernel
theorem dX12_may_37 : decode cX12_may 37 = .ok (.ireturn, 1) := by decide +kernel
theorem dX12_priceOf_0 : decode cX12_priceOf 0 = .ok (.aload_n 0, 1) := by decide +kernel
theorem dX12_priceOf_1 : decode cX12_priceOf 1 = .ok (.getfield 9, 3) := by decide +kernel
theorem dX12_priceOf_4 : decode cX12_priceOf 4 = .ok (.iconst 4, 1) := by decide +kernel
theorem dX12_priceOf_5 : decode cX12_priceOf 5 = .ok (.iaload, 1) := by decide +kernel
theorem dX12_priceOf_6 : decode cX12_priceOf 6 = .ok (.iload_n 1, 1) := by decide +kernel
theorem dX12_priceOf_7 : decode cX12_priceOf 7 = .ok (.aload_n 0, 1) := by decide +kernel
theorem dX12_priceOf_8 : decode cX12_priceOf 8 = .ok (.getfield 9, 3) := by decide +kernel
theorem dX12_priceOf_11 : decode cX12_priceOf 11 = .ok (.iconst 5, 1) := by decide +kernel
theorem dX12_priceOf_12 : decode cX12_priceOf 12 = .ok (.iaload, 1) := by decide +kernel
theorem dX12_priceOf_13 : decode cX12_priceOf 13 = .ok (.imul, 1) := by decide +kernel
theorem dX12_priceOf_14 : decode cX12_priceOf 14 = .ok (.iadd, 1) := by decide +kernel
theorem dX12_priceOf_15 : decode cX12_priceOf 15 = .ok (.istore_n 2, 1) := by decide +kernel
theorem dX12_priceOf_16 : decode cX12_priceOf 16 = .ok (.iload_n 2, 1) := by decide +kernel
theorem dX12_priceOf_17 : decode cX12_priceOf 17 = .ok (.ifCond .ge 7, 3) := by decide +kernel
theorem dX12_priceOf_20 : decode cX12_priceOf 20 = .ok (.iconst 0, 1) := by decide +kernel
theorem dX12_priceOf_21 : decode cX12_priceOf 21 = .ok (.goto 4, 3) := by decide +kernel
theorem dX12_priceOf_24 : decode cX12_priceOf 24 = .ok (.iload_n 2, 1) := by decide +kernel
theorem dX12_priceOf_25 : decode cX12_priceOf 25 = .ok (.ireturn, 1) := by decide +kernel
theorem dX12_wrongList_0 : decode cX12_wrongList 0 = .ok (.aload_n 0, 1) := by decide +kernel
theorem dX12_wrongList_1 : decode cX12_wrongList 1 = .ok (.iload_n 1, 1) := by decide +kernel
theorem dX12_wrongList_2 : decode cX12_wrongList 2 = .ok (.iconst 0, 1) := by decide +kernel
theorem dX12_wrongList_3 : decode cX12_wrongList 3 = .ok (.invokevirtual 126, 3) := by decide +kernel
theorem dX12_wrongList_6 : decode cX12_wrongList 6 = .ok (.istore_n 2, 1) := by decide +kernel
theorem dX12_wrongList_7 : decode cX12_wrongList 7 = .ok (.iload_n 2, 1) := by decide +kernel
theorem dX12_wrongList_8 : decode cX12_wrongList 8 = .ok (.ifCond .eq 5, 3) := by decide +kernel
theorem dX12_wrongList_11 : decode cX12_wrongList 11 = .ok (.iload_n 2, 1) := by decide +kernel
theorem dX12_wrongList_12 : decode cX12_wrongList 12 = .ok (.ireturn, 1) := by decide +kernel
theorem dX12_wrongList_13 : decode cX12_wrongList 13 = .ok (.aload_n 0, 1) := by decide +kernel
theorem dX12_wrongList_14 : decode cX12_wrongList 14 = .ok (.getfield 25, 3) := by decide +kernel
theorem dX12_wrongList_17 : decode cX12_wrongList 17 = .ok (.iload_n 1, 1) := by decide +kernel
theorem dX12_wrongList_18 : decode cX12_wrongList 18 = .ok (.iaload, 1) := by decide +kernel
theorem dX12_wrongList_19 : decode cX12_wrongList 19 = .ok (.bipush 8, 2) := by decide +kernel
theorem dX12_wrongList_21 : decode cX12_wrongList 21 = .ok (.if_icmp .le 6, 3) := by decide +kernel
theorem dX12_wrongList_24 : decode cX12_wrongList 24 = .ok (.bipush (-13), 2) := by decide +kernel
theorem dX12_wrongList_26 : decode cX12_wrongList 26 = .ok (.ireturn, 1) := by decide +kernel
theorem dX12_wrongList_27 : decode cX12_wrongList 27 = .ok (.iconst 0, 1) := by decide +kernel
theorem dX12_wrongList_28 : decode cX12_wrongList 28 = .ok (.istore_n 3, 1) := by decide +kernel
theorem dX12_wrongList_29 : decode cX12_wrongList 29 = .ok (.iload_n 3, 1) := by decide +kernel
theorem dX12_wrongList_30 : decode cX12_wrongList 30 = .ok (.aload_n 0, 1) := by decide +kernel
theorem dX12_wrongList_31 : decode cX12_wrongList 31 = .ok (.getfield 25, 3) := by decide +kernel
theorem dX12_wrongList_34 : decode cX12_wrongList 34 = .ok (.iload_n 1, 1) := by decide +kernel
theorem dX12_wrongList_35 : decode cX12_wrongList 35 = .ok (.iaload, 1) := by decide +kernel
theorem dX12_wrongList_36 : decode cX12_wrongList 36 = .ok (.if_icmp .ge 30, 3) := by decide +kernel
theorem dX12_wrongList_39 : decode cX12_wrongList 39 = .ok (.aload_n 0, 1) := by decide +kernel
theorem dX12_wrongList_40 : decode cX12_wrongList 40 = .ok (.aload_n 0, 1) := by decide +kernel
theorem dX12_wrongList_41 : decode cX12_wrongList 41 = .ok (.getfield 28, 3) := by decide +kernel
theorem dX12_wrongList_44 : decode cX12_wrongList 44 = .ok (.bipush 100, 2) := by decide +kernel
theorem dX12_wrongList_46 : decode cX12_wrongList 46 = .ok (.iload_n 1, 1) := by decide +kernel
theorem dX12_wrongList_47 : decode cX12_wrongList 47 = .ok (.imul, 1) := by decide +kernel
theorem dX12_wrongList_48 : decode cX12_wrongList 48 = .ok (.iload_n 3, 1) := by decide +kernel
theorem dX12_wrongList_49 : decode cX12_wrongList 49 = .ok (.iadd, 1) := by decide +kernel
theorem dX12_wrongList_50 : decode cX12_wrongList 50 = .ok (.iaload, 1) := by decide +kernel
theorem dX12_wrongList_51 : decode cX12_wrongList 51 = .ok (.invokevirtual 143, 3) := by decide +kernel
theorem dX12_wrongList_54 : decode cX12_wrongList 54 = .ok (.ifCond .ne 6, 3) := by decide +kernel
theorem dX12_wrongList_57 : decode cX12_wrongList 57 = .ok (.bipush (-13), 2) := by decide +kernel
theorem dX12_wrongList_59 : decode cX12_wrongList 59 = .ok (.ireturn, 1) := by decide +kernel
theorem dX12_wrongList_60 : decode cX12_wrongList 60 = .ok (.iinc 3 1, 3) := by decide +kernel
theorem dX12_wrongList_63 : decode cX12_wrongList 63 = .ok (.goto (-34), 3) := by decide +kernel
theorem dX12_wrongList_66 : decode cX12_wrongList 66 = .ok (.iconst 0, 1) := by decide +kernel
theorem dX12_wrongList_67 : decode cX12_wrongList 67 = .ok (.ireturn, 1) := by decide +kernel
theorem dX12_lays_0 : decode cX12_lays 0 = .ok (.aload_n 0, 1) := by decide +kernel
theorem dX12_lays_1 : decode cX12_lays 1 = .ok (.aload_n 0, 1) := by decide +kernel
theorem dX12_lays_2 : decode cX12_lays 2 = .ok (.getfield 25, 3) := by decide +kernel
theorem dX12_lays_5 : decode cX12_lays 5 = .ok (.iload_n 1, 1) := by decide +kernel
theorem dX12_lays_6 : decode cX12_lays 6 = .ok (.iaload, 1) := by decide +kernel
theorem dX12_lays_7 : decode cX12_lays 7 = .ok (.putfield 166, 3) := by decide +kernel
theorem dX12_lays_10 : decode cX12_lays 10 = .ok (.iconst 0, 1) := by decide +kernel
theorem dX12_lays_11 : decode cX12_lays 11 = .ok (.istore_n 3, 1) := by decide +kernel
theorem dX12_lays_12 : decode cX12_lays 12 = .ok (.iload_n 3, 1) := by decide +kernel
theorem dX12_lays_13 : decode cX12_lays 13 = .ok (.aload_n 0, 1) := by decide +kernel
theorem dX12_lays_14 : decode cX12_lays 14 = .ok (.getfield 166, 3) := by decide +kernel
theorem dX12_lays_17 : decode cX12_lays 17 = .ok (.if_icmp .ge 26, 3) := by decide +kernel
theorem dX12_lays_20 : decode cX12_lays 20 = .ok (.aload_n 0, 1) := by decide +kernel
theorem dX12_lays_21 : decode cX12_lays 21 = .ok (.getfield 40, 3) := by decide +kernel
theorem dX12_lays_24 : decode cX12_lays 24 = .ok (.iload_n 3, 1) := by decide +kernel
theorem dX12_lays_25 : decode cX12_lays 25 = .ok (.aload_n 0, 1) := by decide +kernel
theorem dX12_lays_26 : decode cX12_lays 26 = .ok (.getfield 28, 3) := by decide +kernel
theorem dX12_lays_29 : decode cX12_lays 29 = .ok (.bipush 100, 2) := by decide +kernel
theorem dX12_lays_31 : decode cX12_lays 31 = .ok (.iload_n 1, 1) := by decide +kernel
theorem dX12_lays_32 : decode cX12_lays 32 = .ok (.imul, 1) := by decide +kernel
theorem dX12_lays_33 : decode cX12_lays 33 = .ok (.iload_n 3, 1) := by decide +kernel
theorem dX12_lays_34 : decode cX12_lays 34 = .ok (.iadd, 1) := by decide +kernel
theorem dX12_lays_35 : decode cX12_lays 35 = .ok (.iaload, 1) := by decide +kernel
theorem dX12_lays_36 : decode cX12_lays 36 = .ok (.iastore, 1) := by decide +kernel
theorem dX12_lays_37 : decode cX12_lays 37 = .ok (.iinc 3 1, 3) := by decide +kernel
theorem dX12_lays_40 : decode cX12_lays 40 = .ok (.goto (-28), 3) := by decide +kernel
theorem dX12_lays_43 : decode cX12_lays 43 = .ok (.aload_n 0, 1) := by decide +kernel
theorem dX12_lays_44 : decode cX12_lays 44 = .ok (.iload_n 2, 1) := by decide +kernel
theorem dX12_lays_45 : decode cX12_lays 45 = .ok (.putfield 169, 3) := by decide +kernel
theorem dX12_lays_48 : decode cX12_lays 48 = .ok (.aload_n 0, 1) := by decide +kernel
theorem dX12_lays_49 : decode cX12_lays 49 = .ok (.invokevirtual 172, 3) := by decide +kernel
theorem dX12_lays_52 : decode cX12_lays 52 = .ok (.return_, 1) := by decide +kernel
theorem dX12_begins_0 : decode cX12_begins 0 = .ok (.aload_n 0, 1) := by decide +kernel
theorem dX12_begins_1 : decode cX12_begins 1 = .ok (.aload_n 0, 1) := by decide +kernel
theorem dX12_begins_2 : decode cX12_begins 2 = .ok (.getfield 9, 3) := by decide +kernel
theorem dX12_begins_5 : decode cX12_begins 5 = .ok (.iconst 0, 1) := by decide +kernel
theorem dX12_begins_6 : decode cX12_begins 6 = .ok (.iaload, 1) := by decide +kernel
theorem dX12_begins_7 : decode cX12_begins 7 = .ok (.putfield 175, 3) := by decide +kernel
theorem dX12_begins_10 : decode cX12_begins 10 = .ok (.aload_n 0, 1) := by decide +kernel
theorem dX12_begins_11 : decode cX12_begins 11 = .ok (.aload_n 0, 1) := by decide +kernel
theorem dX12_begins_12 : decode cX12_begins 12 = .ok (.getfield 9, 3) := by decide +kernel
theorem dX12_begins_15 : decode cX12_begins 15 = .ok (.iconst 1, 1) := by decide +kernel
theorem dX12_begins_16 : decode cX12_begins 16 = .ok (.iaload, 1) := by decide +kernel
theorem dX12_begins_17 : decode cX12_begins 17 = .ok (.putfield 178, 3) := by decide +kernel
theorem dX12_begins_20 : decode cX12_begins 20 = .ok (.aload_n 0, 1) := by decide +kernel
theorem dX12_begins_21 : decode cX12_begins 21 = .ok (.iconst 0, 1) := by decide +kernel
theorem dX12_begins_22 : decode cX12_begins 22 = .ok (.putfield 181, 3) := by decide +kernel
theorem dX12_begins_25 : decode cX12_begins 25 = .ok (.aload_n 0, 1) := by decide +kernel
theorem dX12_begins_26 : decode cX12_begins 26 = .ok (.iconst 0, 1) := by decide +kernel
theorem dX12_begins_27 : decode cX12_begins 27 = .ok (.putfield 184, 3) := by decide +kernel
theorem dX12_begins_30 : decode cX12_begins 30 = .ok (.return_, 1) := by decide +kernel
theorem dX12_evenYear_0 : decode cX12_evenYear 0 = .ok (.iconst 0, 1) := by decide +kernel
theorem dX12_evenYear_1 : decode cX12_evenYear 1 = .ok (.istore_n 1, 1) := by decide +kernel
theorem dX12_evenYear_2 : decode cX12_evenYear 2 = .ok (.iload_n 1, 1) := by decide +kernel
theorem dX12_evenYear_3 : decode cX12_evenYear 3 = .ok (.aload_n 0, 1) := by decide +kernel
theorem dX12_evenYear_4 : decode cX12_evenYear 4 = .ok (.getfield 166, 3) := by decide +kernel
theorem dX12_evenYear_7 : decode cX12_evenYear 7 = .ok (.if_icmp .ge 192, 3) := by decide +kernel
theorem dX12_evenYear_10 : decode cX12_evenYear 10 = .ok (.aload_n 0, 1) := by decide +kernel
theorem dX12_evenYear_11 : decode cX12_evenYear 11 = .ok (.getfield 40, 3) := by decide +kernel
theorem dX12_evenYear_14 : decode cX12_evenYear 14 = .ok (.iload_n 1, 1) := by decide +kernel
theorem dX12_evenYear_15 : decode cX12_evenYear 15 = .ok (.iaload, 1) := by decide +kernel
theorem dX12_evenYear_16 : decode cX12_evenYear 16 = .ok (.istore_n 2, 1) := by decide +kernel
theorem dX12_evenYear_17 : decode cX12_evenYear 17 = .ok (.aload_n 0, 1) := by decide +kernel
theorem dX12_evenYear_18 : decode cX12_evenYear 18 = .ok (.getfield 49, 3) := by decide +kernel
theorem dX12_evenYear_21 : decode cX12_evenYear 21 = .ok (.iload_n 1, 1) := by decide +kernel
theorem dX12_evenYear_22 : decode cX12_evenYear 22 = .ok (.iconst 0, 1) := by decide +kernel
theorem dX12_evenYear_23 : decode cX12_evenYear 23 = .ok (.iastore, 1) := by decide +kernel
theorem dX12_evenYear_24 : decode cX12_evenYear 24 = .ok (.aload_n 0, 1) := by decide +kernel
theorem dX12_evenYear_25 : decode cX12_evenYear 25 = .ok (.getfield 43, 3) := by decide +kernel
theorem dX12_evenYear_28 : decode cX12_evenYear 28 = .ok (.iload_n 1, 1) := by decide +kernel
theorem dX12_evenYear_29 : decode cX12_evenYear 29 = .ok (.iconst 0, 1) := by decide +kernel
theorem dX12_evenYear_30 : decode cX12_evenYear 30 = .ok (.iastore, 1) := by decide +kernel
theorem dX12_evenYear_31 : decode cX12_evenYear 31 = .ok (.aload_n 0, 1) := by decide +kernel
theorem dX12_evenYear_32 : decode cX12_evenYear 32 = .ok (.iload_n 2, 1) := by decide +kernel
theorem dX12_evenYear_33 : decode cX12_evenYear 33 = .ok (.aload_n 0, 1) := by decide +kernel
theorem dX12_evenYear_34 : decode cX12_evenYear 34 = .ok (.getfield 175, 3) := by decide +kernel
theorem dX12_evenYear_37 : decode cX12_evenYear 37 = .ok (.aload_n 0, 1) := by decide +kernel
theorem dX12_evenYear_38 : decode cX12_evenYear 38 = .ok (.getfield 178, 3) := by decide +kernel
theorem dX12_evenYear_41 : decode cX12_evenYear 41 = .ok (.invokevirtual 162, 3) := by decide +kernel
theorem dX12_evenYear_44 : decode cX12_evenYear 44 = .ok (.ifCond .eq 139, 3) := by decide +kernel
theorem dX12_evenYear_47 : decode cX12_evenYear 47 = .ok (.aload_n 0, 1) := by decide +kernel
theorem dX12_evenYear_48 : decode cX12_evenYear 48 = .ok (.iload_n 2, 1) := by decide +kernel
theorem dX12_evenYear_49 : decode cX12_evenYear 49 = .ok (.aload_n 0, 1) := by decide +kernel
theorem dX12_evenYear_50 : decode cX12_evenYear 50 = .ok (.getfield 175, 3) := by decide +kernel
theorem dX12_evenYear_53 : decode cX12_evenYear 53 = .ok (.invokevirtual 187, 3) := by decide +kernel
theorem dX12_evenYear_56 : decode cX12_evenYear 56 = .ok (.istore_n 3, 1) := by decide +kernel
theorem dX12_evenYear_57 : decode cX12_evenYear 57 = .ok (.aload_n 0, 1) := by decide +kernel
theorem dX12_evenYear_58 : decode cX12_evenYear 58 = .ok (.getfield 43, 3) := by decide +kernel
theorem dX12_evenYear_61 : decode cX12_evenYear 61 = .ok (.iload_n 1, 1) := by decide +kernel
theorem dX12_evenYear_62 : decode cX12_evenYear 62 = .ok (.iload_n 3, 1) := by decide +kernel
theorem dX12_evenYear_63 : decode cX12_evenYear 63 = .ok (.aload_n 0, 1) := by decide +kernel
theorem dX12_evenYear_64 : decode cX12_evenYear 64 = .ok (.getfield 175, 3) := by decide +kernel
theorem dX12_evenYear_67 : decode cX12_evenYear 67 = .ok (.ixor, 1) := by decide +kernel
theorem dX12_evenYear_68 : decode cX12_evenYear 68 = .ok (.iastore, 1) := by decide +kernel
theorem dX12_evenYear_69 : decode cX12_evenYear 69 = .ok (.aload_n 0, 1) := by decide +kernel
theorem dX12_evenYear_70 : decode cX12_evenYear 70 = .ok (.getfield 46, 3) := by decide +kernel
theorem dX12_evenYear_73 : decode cX12_evenYear 73 = .ok (.iload_n 1, 1) := by decide +kernel
theorem dX12_evenYear_74 : decode cX12_evenYear 74 = .ok (.aload_n 0, 1) := by decide +kernel
theorem dX12_evenYear_75 : decode cX12_evenYear 75 = .ok (.getfield 175, 3) := by decide +kernel
theorem dX12_evenYear_78 : decode cX12_evenYear 78 = .ok (.aload_n 0, 1) := by decide +kernel
theorem dX12_evenYear_79 : decode cX12_evenYear 79 = .ok (.getfield 43, 3) := by decide +kernel
theorem dX12_evenYear_82 : decode cX12_evenYear 82 = .ok (.iload_n 1, 1) := by decide +kernel
theorem dX12_evenYear_83 : decode cX12_evenYear 83 = .ok (.iaload, 1) := by decide +kernel
theorem dX12_evenYear_84 : decode cX12_evenYear 84 = .ok (.iand, 1) := by decide +kernel
theorem dX12_evenYear_85 : decode cX12_evenYear 85 = .ok (.iastore, 1) := by decide +kernel
theorem dX12_evenYear_86 : decode cX12_evenYear 86 = .ok (.aload_n 0, 1) := by decide +kernel
theorem dX12_evenYear_87 : decode cX12_evenYear 87 = .ok (.iload_n 3, 1) := by decide +kernel
theorem dX12_evenYear_88 : decode cX12_evenYear 88 = .ok (.putfield 175, 3) := by decide +kernel
theorem dX12_evenYear_91 : decode cX12_evenYear 91 = .ok (.aload_n 0, 1) := by decide +kernel
theorem dX12_evenYear_92 : decode cX12_evenYear 92 = .ok (.dup, 1) := by decide +kernel
theorem dX12_evenYear_93 : decode cX12_evenYear 93 = .ok (.getfield 178, 3) := by decide +kernel
theorem dX12_evenYear_96 : decode cX12_evenYear 96 = .ok (.aload_n 0, 1) := by decide +kernel
theorem dX12_evenYear_97 : decode cX12_evenYear 97 = .ok (.iload_n 2, 1) := by decide +kernel
theorem dX12_evenYear_98 : decode cX12_evenYear 98 = .ok (.invokevirtual 139, 3) := by decide +kernel
theorem dX12_evenYear_101 : decode cX12_evenYear 101 = .ok (.isub, 1) := by decide +kernel
theorem dX12_evenYear_102 : decode cX12_evenYear 102 = .ok (.putfield 178, 3) := by decide +kernel
theorem dX12_evenYear_105 : decode cX12_evenYear 105 = .ok (.aload_n 0, 1) := by decide +kernel
theorem dX12_evenYear_106 : decode cX12_evenYear 106 = .ok (.getfield 49, 3) := by decide +kernel
theorem dX12_evenYear_109 : decode cX12_evenYear 109 = .ok (.iload_n 1, 1) := by decide +kernel
theorem dX12_evenYear_110 : decode cX12_evenYear 110 = .ok (.aload_n 0, 1) := by decide +kernel
theorem dX12_evenYear_111 : decode cX12_evenYear 111 = .ok (.iload_n 2, 1) := by decide +kernel
theorem dX12_evenYear_112 : decode cX12_evenYear 112 = .ok (.invokevirtual 151, 3) := by decide +kernel
theorem dX12_evenYear_115 : decode cX12_evenYear 115 = .ok (.ifCond .eq 7, 3) := by decide +kernel
theorem dX12_evenYear_118 : decode cX12_evenYear 118 = .ok (.iconst 3, 1) := by decide +kernel
theorem dX12_evenYear_119 : decode cX12_evenYear 119 = .ok (.goto 4, 3) := by decide +kernel
theorem dX12_evenYear_122 : decode cX12_evenYear 122 = .ok (.iconst 1, 1) := by decide +kernel
theorem dX12_evenYear_123 : decode cX12_evenYear 123 = .ok (.iastore, 1) := by decide +kernel
theorem dX12_evenYear_124 : decode cX12_evenYear 124 = .ok (.aload_n 0, 1) := by decide +kernel
theorem dX12_evenYear_125 : decode cX12_evenYear 125 = .ok (.getfield 169, 3) := by decide +kernel
theorem dX12_evenYear_128 : decode cX12_evenYear 128 = .ok (.iload_n 1, 1) := by decide +kernel
theorem dX12_evenYear_129 : decode cX12_evenYear 129 = .ok (.ishr, 1) := by decide +kernel
theorem dX12_evenYear_130 : decode cX12_evenYear 130 = .ok (.iconst 1, 1) := by decide +kernel
theorem dX12_evenYear_131 : decode cX12_evenYear 131 = .ok (.iand, 1) := by decide +kernel
theorem dX12_evenYear_132 : decode cX12_evenYear 132 = .ok (.iconst 1, 1) := by decide +kernel
theorem dX12_evenYear_133 : decode cX12_evenYear 133 = .ok (.if_icmp .ne 50, 3) := by decide +kernel
theorem dX12_evenYear_136 : decode cX12_evenYear 136 = .ok (.aload_n 0, 1) := by decide +kernel
theorem dX12_evenYear_137 : decode cX12_evenYear 137 = .ok (.getfield 178, 3) := by decide +kernel
theorem dX12_evenYear_140 : decode cX12_evenYear 140 = .ok (.aload_n 0, 1) := by decide +kernel
theorem dX12_evenYear_141 : decode cX12_evenYear 141 = .ok (.iload_n 1, 1) := by decide +kernel
theorem dX12_evenYear_142 : decode cX12_evenYear 142 = .ok (.invokevirtual 190, 3) := by decide +kernel
theorem dX12_evenYear_145 : decode cX12_evenYear 145 = .ok (.if_icmp .lt 38, 3) := by decide +kernel
theorem dX12_evenYear_148 : decode cX12_evenYear 148 = .ok (.aload_n 0, 1) := by decide +kernel
theorem dX12_evenYear_149 : decode cX12_evenYear 149 = .ok (.dup, 1) := by decide +kernel
theorem dX12_evenYear_150 : decode cX12_evenYear 150 = .ok (.getfield 178, 3) := by decide +kernel
theorem dX12_evenYear_153 : decode cX12_evenYear 153 = .ok (.aload_n 0, 1) := by decide +kernel
theorem dX12_evenYear_154 : decode cX12_evenYear 154 = .ok (.iload_n 1, 1) := by decide +kernel
theorem dX12_evenYear_155 : decode cX12_evenYear 155 = .ok (.invokevirtual 190, 3) := by decide +kernel
theorem dX12_evenYear_158 : decode cX12_evenYear 158 = .ok (.isub, 1) := by decide +kernel
theorem dX12_evenYear_159 : decode cX12_evenYear 159 = .ok (.putfield 178, 3) := by decide +kernel
theorem dX12_evenYear_162 : decode cX12_evenYear 162 = .ok (.aload_n 0, 1) := by decide +kernel
theorem dX12_evenYear_163 : decode cX12_evenYear 163 = .ok (.dup, 1) := by decide +kernel
theorem dX12_evenYear_164 : decode cX12_evenYear 164 = .ok (.getfield 181, 3) := by decide +kernel
theorem dX12_evenYear_167 : decode cX12_evenYear 167 = .ok (.aload_n 0, 1) := by decide +kernel
theorem dX12_evenYear_168 : decode cX12_evenYear 168 = .ok (.iload_n 1, 1) := by decide +kernel
theorem dX12_evenYear_169 : decode cX12_evenYear 169 = .ok (.invokevirtual 190, 3) := by decide +kernel
theorem dX12_evenYear_172 : decode cX12_evenYear 172 = .ok (.iadd, 1) := by decide +kernel
theorem dX12_evenYear_173 : decode cX12_evenYear 173 = .ok (.putfield 181, 3) := by decide +kernel
theorem dX12_evenYear_176 : decode cX12_evenYear 176 = .ok (.aload_n 0, 1) := by decide +kernel
theorem dX12_evenYear_177 : decode cX12_evenYear 177 = .ok (.getfield 49, 3) := by decide +kernel
theorem dX12_evenYear_180 : decode cX12_evenYear 180 = .ok (.iload_n 1, 1) := by decide +kernel
theorem dX12_evenYear_181 : decode cX12_evenYear 181 = .ok (.iconst 2, 1) := by decide +kernel
theorem dX12_evenYear_182 : decode cX12_evenYear 182 = .ok (.iastore, 1) := by decide +kernel
theorem dX12_evenYear_183 : decode cX12_evenYear 183 = .ok (.aload_n 0, 1) := by decide +kernel
theorem dX12_evenYear_184 : decode cX12_evenYear 184 = .ok (.getfield 52, 3) := by decide +kernel
theorem dX12_evenYear_187 : decode cX12_evenYear 187 = .ok (.iload_n 1, 1) := by decide +kernel
theorem dX12_evenYear_188 : decode cX12_evenYear 188 = .ok (.aload_n 0, 1) := by decide +kernel
theorem dX12_evenYear_189 : decode cX12_evenYear 189 = .ok (.getfield 175, 3) := by decide +kernel
theorem dX12_evenYear_192 : decode cX12_evenYear 192 = .ok (.iastore, 1) := by decide +kernel
theorem dX12_evenYear_193 : decode cX12_evenYear 193 = .ok (.iinc 1 1, 3) := by decide +kernel
theorem dX12_evenYear_196 : decode cX12_evenYear 196 = .ok (.goto (-194), 3) := by decide +kernel
theorem dX12_evenYear_199 : decode cX12_evenYear 199 = .ok (.return_, 1) := by decide +kernel
theorem dX12_undoes_0 : decode cX12_undoes 0 = .ok (.aload_n 0, 1) := by decide +kernel
theorem dX12_undoes_1 : decode cX12_undoes 1 = .ok (.aload_n 0, 1) := by decide +kernel
theorem dX12_undoes_2 : decode cX12_undoes 2 = .ok (.getfield 175, 3) := by decide +kernel
theorem dX12_undoes_5 : decode cX12_undoes 5 = .ok (.aload_n 0, 1) := by decide +kernel
theorem dX12_undoes_6 : decode cX12_undoes 6 = .ok (.getfield 43, 3) := by decide +kernel
theorem dX12_undoes_9 : decode cX12_undoes 9 = .ok (.iload_n 1, 1) := by decide +kernel
theorem dX12_undoes_10 : decode cX12_undoes 10 = .ok (.iaload, 1) := by decide +kernel
theorem dX12_undoes_11 : decode cX12_undoes 11 = .ok (.iconst (-1), 1) := by decide +kernel
theorem dX12_undoes_12 : decode cX12_undoes 12 = .ok (.ixor, 1) := by decide +kernel
theorem dX12_undoes_13 : decode cX12_undoes 13 = .ok (.iand, 1) := by decide +kernel
theorem dX12_undoes_14 : decode cX12_undoes 14 = .ok (.aload_n 0, 1) := by decide +kernel
theorem dX12_undoes_15 : decode cX12_undoes 15 = .ok (.getfield 46, 3) := by decide +kernel
theorem dX12_undoes_18 : decode cX12_undoes 18 = .ok (.iload_n 1, 1) := by decide +kernel
theorem dX12_undoes_19 : decode cX12_undoes 19 = .ok (.iaload, 1) := by decide +kernel
theorem dX12_undoes_20 : decode cX12_undoes 20 = .ok (.ior, 1) := by decide +kernel
theorem dX12_undoes_21 : decode cX12_undoes 21 = .ok (.putfield 175, 3) := by decide +kernel
theorem dX12_undoes_24 : decode cX12_undoes 24 = .ok (.aload_n 0, 1) := by decide +kernel
theorem dX12_undoes_25 : decode cX12_undoes 25 = .ok (.dup, 1) := by decide +kernel
theorem dX12_undoes_26 : decode cX12_undoes 26 = .ok (.getfield 178, 3) := by decide +kernel
theorem dX12_undoes_29 : decode cX12_undoes 29 = .ok (.aload_n 0, 1) := by decide +kernel
theorem dX12_undoes_30 : decode cX12_undoes 30 = .ok (.aload_n 0, 1) := by decide +kernel
theorem dX12_undoes_31 : decode cX12_undoes 31 = .ok (.getfield 40, 3) := by decide +kernel
theorem dX12_undoes_34 : decode cX12_undoes 34 = .ok (.iload_n 1, 1) := by decide +kernel
theorem dX12_undoes_35 : decode cX12_undoes 35 = .ok (.iaload, 1) := by decide +kernel
theorem dX12_undoes_36 : decode cX12_undoes 36 = .ok (.invokevirtual 148, 3) := by decide +kernel
theorem dX12_undoes_39 : decode cX12_undoes 39 = .ok (.iadd, 1) := by decide +kernel
theorem dX12_undoes_40 : decode cX12_undoes 40 = .ok (.putfield 178, 3) := by decide +kernel
theorem dX12_undoes_43 : decode cX12_undoes 43 = .ok (.aload_n 0, 1) := by decide +kernel
theorem dX12_undoes_44 : decode cX12_undoes 44 = .ok (.aload_n 0, 1) := by decide +kernel
theorem dX12_undoes_45 : decode cX12_undoes 45 = .ok (.getfield 178, 3) := by decide +kernel
theorem dX12_undoes_48 : decode cX12_undoes 48 = .ok (.sipush 9999, 3) := by decide +kernel
theorem dX12_undoes_51 : decode cX12_undoes 51 = .ok (.if_icmp .le 9, 3) := by decide +kernel
theorem dX12_undoes_54 : decode cX12_undoes 54 = .ok (.sipush 9999, 3) := by decide +kernel
theorem dX12_undoes_57 : decode cX12_undoes 57 = .ok (.goto 7, 3) := by decide +kernel
theorem dX12_undoes_60 : decode cX12_undoes 60 = .ok (.aload_n 0, 1) := by decide +kernel
theorem dX12_undoes_61 : decode cX12_undoes 61 = .ok (.getfield 178, 3) := by decide +kernel
theorem dX12_undoes_64 : decode cX12_undoes 64 = .ok (.putfield 178, 3) := by decide +kernel
theorem dX12_undoes_67 : decode cX12_undoes 67 = .ok (.aload_n 0, 1) := by decide +kernel
theorem dX12_undoes_68 : decode cX12_undoes 68 = .ok (.getfield 49, 3) := by decide +kernel
theorem dX12_undoes_71 : decode cX12_undoes 71 = .ok (.iload_n 1, 1) := by decide +kernel
theorem dX12_undoes_72 : decode cX12_undoes 72 = .ok (.iload_n 2, 1) := by decide +kernel
theorem dX12_undoes_73 : decode cX12_undoes 73 = .ok (.iastore, 1) := by decide +kernel
theorem dX12_undoes_74 : decode cX12_undoes 74 = .ok (.aload_n 0, 1) := by decide +kernel
theorem dX12_undoes_75 : decode cX12_undoes 75 = .ok (.dup, 1) := by decide +kernel
theorem dX12_undoes_76 : decode cX12_undoes 76 = .ok (.getfield 184, 3) := by decide +kernel
theorem dX12_undoes_79 : decode cX12_undoes 79 = .ok (.iconst 1, 1) := by decide +kernel
theorem dX12_undoes_80 : decode cX12_undoes 80 = .ok (.iadd, 1) := by decide +kernel
theorem dX12_undoes_81 : decode cX12_undoes 81 = .ok (.putfield 184, 3) := by decide +kernel
theorem dX12_undoes_84 : decode cX12_undoes 84 = .ok (.return_, 1) := by decide +kernel
theorem dX12_holds_0 : decode cX12_holds 0 = .ok (.aload_n 0, 1) := by decide +kernel
theorem dX12_holds_1 : decode cX12_holds 1 = .ok (.getfield 49, 3) := by decide +kernel
theorem dX12_holds_4 : decode cX12_holds 4 = .ok (.iload_n 1, 1) := by decide +kernel
theorem dX12_holds_5 : decode cX12_holds 5 = .ok (.iaload, 1) := by decide +kernel
theorem dX12_holds_6 : decode cX12_holds 6 = .ok (.iconst 2, 1) := by decide +kernel
theorem dX12_holds_7 : decode cX12_holds 7 = .ok (.if_icmp .eq 13, 3) := by decide +kernel
theorem dX12_holds_10 : decode cX12_holds 10 = .ok (.aload_n 0, 1) := by decide +kernel
theorem dX12_holds_11 : decode cX12_holds 11 = .ok (.getfield 49, 3) := by decide +kernel
theorem dX12_holds_14 : decode cX12_holds 14 = .ok (.iload_n 1, 1) := by decide +kernel
theorem dX12_holds_15 : decode cX12_holds 15 = .ok (.iaload, 1) := by decide +kernel
theorem dX12_holds_16 : decode cX12_holds 16 = .ok (.iconst 3, 1) := by decide +kernel
theorem dX12_holds_17 : decode cX12_holds 17 = .ok (.if_icmp .ne 7, 3) := by decide +kernel
theorem dX12_holds_20 : decode cX12_holds 20 = .ok (.iconst 1, 1) := by decide +kernel
theorem dX12_holds_21 : decode cX12_holds 21 = .ok (.goto 4, 3) := by decide +kernel
theorem dX12_holds_24 : decode cX12_holds 24 = .ok (.iconst 0, 1) := by decide +kernel
theorem dX12_holds_25 : decode cX12_holds 25 = .ok (.ireturn, 1) := by decide +kernel
theorem dX12_isHeld_0 : decode cX12_isHeld 0 = .ok (.iload_n 1, 1) := by decide +kernel
theorem dX12_isHeld_1 : decode cX12_isHeld 1 = .ok (.iconst 1, 1) := by decide +kernel
theorem dX12_isHeld_2 : decode cX12_isHeld 2 = .ok (.iadd, 1) := by decide +kernel
theorem dX12_isHeld_3 : decode cX12_isHeld 3 = .ok (.istore_n 2, 1) := by decide +kernel
theorem dX12_isHeld_4 : decode cX12_isHeld 4 = .ok (.iload_n 2, 1) := by decide +kernel
theorem dX12_isHeld_5 : decode cX12_isHeld 5 = .ok (.aload_n 0, 1) := by decide +kernel
theorem dX12_isHeld_6 : decode cX12_isHeld 6 = .ok (.getfield 166, 3) := by decide +kernel
theorem dX12_isHeld_9 : decode cX12_isHeld 9 = .ok (.if_icmp .ge 40, 3) := by decide +kernel
theorem dX12_isHeld_12 : decode cX12_isHeld 12 = .ok (.aload_n 0, 1) := by decide +kernel
theorem dX12_isHeld_13 : decode cX12_isHeld 13 = .ok (.iload_n 2, 1) := by decide +kernel
theorem dX12_isHeld_14 : decode cX12_isHeld 14 = .ok (.invokevirtual 193, 3) := by decide +kernel
theorem dX12_isHeld_17 : decode cX12_isHeld 17 = .ok (.ifCond .eq 26, 3) := by decide +kernel
theorem dX12_isHeld_20 : decode cX12_isHeld 20 = .ok (.aload_n 0, 1) := by decide +kernel
theorem dX12_isHeld_21 : decode cX12_isHeld 21 = .ok (.aload_n 0, 1) := by decide +kernel
theorem dX12_isHeld_22 : decode cX12_isHeld 22 = .ok (.getfield 40, 3) := by decide +kernel
theorem dX12_isHeld_25 : decode cX12_isHeld 25 = .ok (.iload_n 2, 1) := by decide +kernel
theorem dX12_isHeld_26 : decode cX12_isHeld 26 = .ok (.iaload, 1) := by decide +kernel
theorem dX12_isHeld_27 : decode cX12_isHeld 27 = .ok (.iconst 1, 1) := by decide +kernel
theorem dX12_isHeld_28 : decode cX12_isHeld 28 = .ok (.invokevirtual 136, 3) := by decide +kernel
theorem dX12_isHeld_31 : decode cX12_isHeld 31 = .ok (.aload_n 0, 1) := by decide +kernel
theorem dX12_isHeld_32 : decode cX12_isHeld 32 = .ok (.getfield 43, 3) := by decide +kernel
theorem dX12_isHeld_35 : decode cX12_isHeld 35 = .ok (.iload_n 1, 1) := by decide +kernel
theorem dX12_isHeld_36 : decode cX12_isHeld 36 = .ok (.iaload, 1) := by decide +kernel
theorem dX12_isHeld_37 : decode cX12_isHeld 37 = .ok (.iand, 1) := by decide +kernel
theorem dX12_isHeld_38 : decode cX12_isHeld 38 = .ok (.ifCond .eq 5, 3) := by decide +kernel
theorem dX12_isHeld_41 : decode cX12_isHeld 41 = .ok (.iconst 1, 1) := by decide +kernel
theorem dX12_isHeld_42 : decode cX12_isHeld 42 = .ok (.ireturn, 1) := by decide +kernel
theorem dX12_isHeld_43 : decode cX12_isHeld 43 = .ok (.iinc 2 1, 3) := by decide +kernel
theorem dX12_isHeld_46 : decode cX12_isHeld 46 = .ok (.goto (-42), 3) := by decide +kernel
theorem dX12_isHeld_49 : decode cX12_isHeld 49 = .ok (.iconst 0, 1) := by decide +kernel
theorem dX12_isHeld_50 : decode cX12_isHeld 50 = .ok (.ireturn, 1) := by decide +kernel
theorem dX12_falls_0 : decode cX12_falls 0 = .ok (.iconst 1, 1) := by decide +kernel
theorem dX12_falls_1 : decode cX12_falls 1 = .ok (.istore_n 1, 1) := by decide +kernel
theorem dX12_falls_2 : decode cX12_falls 2 = .ok (.iload_n 1, 1) := by decide +kernel
theorem dX12_falls_3 : decode cX12_falls 3 = .ok (.ifCond .eq 65, 3) := by decide +kernel
theorem dX12_falls_6 : decode cX12_falls 6 = .ok (.iconst 0, 1) := by decide +kernel
theorem dX12_falls_7 : decode cX12_falls 7 = .ok (.istore_n 1, 1) := by decide +kernel
theorem dX12_falls_8 : decode cX12_falls 8 = .ok (.aload_n 0, 1) := by decide +kernel
theorem dX12_falls_9 : decode cX12_falls 9 = .ok (.getfield 166, 3) := by decide +kernel
theorem dX12_falls_12 : decode cX12_falls 12 = .ok (.iconst 1, 1) := by decide +kernel
theorem dX12_falls_13 : decode cX12_falls 13 = .ok (.isub, 1) := by decide +kernel
theorem dX12_falls_14 : decode cX12_falls 14 = .ok (.istore_n 2, 1) := by decide +kernel
theorem dX12_falls_15 : decode cX12_falls 15 = .ok (.iload_n 2, 1) := by decide +kernel
theorem dX12_falls_16 : decode cX12_falls 16 = .ok (.ifCond .lt 49, 3) := by decide +kernel
theorem dX12_falls_19 : decode cX12_falls 19 = .ok (.aload_n 0, 1) := by decide +kernel
theorem dX12_falls_20 : decode cX12_falls 20 = .ok (.iload_n 2, 1) := by decide +kernel
theorem dX12_falls_21 : decode cX12_falls 21 = .ok (.invokevirtual 193, 3) := by decide +kernel
theorem dX12_falls_24 : decode cX12_falls 24 = .ok (.ifCond .eq 35, 3) := by decide +kernel
theorem dX12_falls_27 : decode cX12_falls 27 = .ok (.aload_n 0, 1) := by decide +kernel
theorem dX12_falls_28 : decode cX12_falls 28 = .ok (.aload_n 0, 1) := by decide +kernel
theorem dX12_falls_29 : decode cX12_falls 29 = .ok (.getfield 40, 3) := by decide +kernel
theorem dX12_falls_32 : decode cX12_falls 32 = .ok (.iload_n 2, 1) := by decide +kernel
theorem dX12_falls_33 : decode cX12_falls 33 = .ok (.iaload, 1) := by decide +kernel
theorem dX12_falls_34 : decode cX12_falls 34 = .ok (.iconst 1, 1) := by decide +kernel
theorem dX12_falls_35 : decode cX12_falls 35 = .ok (.invokevirtual 136, 3) := by decide +kernel
theorem dX12_falls_38 : decode cX12_falls 38 = .ok (.aload_n 0, 1) := by decide +kernel
theorem dX12_falls_39 : decode cX12_falls 39 = .ok (.getfield 175, 3) := by decide +kernel
theorem dX12_falls_42 : decode cX12_falls 42 = .ok (.iconst (-1), 1) := by decide +kernel
theorem dX12_falls_43 : decode cX12_falls 43 = .ok (.ixor, 1) := by decide +kernel
theorem dX12_falls_44 : decode cX12_falls 44 = .ok (.iand, 1) := by decide +kernel
theorem dX12_falls_45 : decode cX12_falls 45 = .ok (.ifCond .ne 6, 3) := by decide +kernel
theorem dX12_falls_48 : decode cX12_falls 48 = .ok (.goto 11, 3) := by decide +kernel
theorem dX12_falls_51 : decode cX12_falls 51 = .ok (.aload_n 0, 1) := by decide +kernel
theorem dX12_falls_52 : decode cX12_falls 52 = .ok (.iload_n 2, 1) := by decide +kernel
theorem dX12_falls_53 : decode cX12_falls 53 = .ok (.iconst 5, 1) := by decide +kernel
theorem dX12_falls_54 : decode cX12_falls 54 = .ok (.invokevirtual 196, 3) := by decide +kernel
theorem dX12_falls_57 : decode cX12_falls 57 = .ok (.iconst 1, 1) := by decide +kernel
theorem dX12_falls_58 : decode cX12_falls 58 = .ok (.istore_n 1, 1) := by decide +kernel
theorem dX12_falls_59 : decode cX12_falls 59 = .ok (.iinc 2 (-1), 3) := by decide +kernel
theorem dX12_falls_62 : decode cX12_falls 62 = .ok (.goto (-47), 3) := by decide +kernel
theorem dX12_falls_65 : decode cX12_falls 65 = .ok (.goto (-63), 3) := by decide +kernel
theorem dX12_falls_68 : decode cX12_falls 68 = .ok (.return_, 1) := by decide +kernel
theorem dX12_oddYear_0 : decode cX12_oddYear 0 = .ok (.aload_n 0, 1) := by decide +kernel
theorem dX12_oddYear_1 : decode cX12_oddYear 1 = .ok (.getfield 166, 3) := by decide +kernel
theorem dX12_oddYear_4 : decode cX12_oddYear 4 = .ok (.iconst 1, 1) := by decide +kernel
theorem dX12_oddYear_5 : decode cX12_oddYear 5 = .ok (.isub, 1) := by decide +kernel
theorem dX12_oddYear_6 : decode cX12_oddYear 6 = .ok (.istore_n 1, 1) := by decide +kernel
theorem dX12_oddYear_7 : decode cX12_oddYear 7 = .ok (.iload_n 1, 1) := by decide +kernel
theorem dX12_oddYear_8 : decode cX12_oddYear 8 = .ok (.ifCond .lt 69, 3) := by decide +kernel
theorem dX12_oddYear_11 : decode cX12_oddYear 11 = .ok (.aload_n 0, 1) := by decide +kernel
theorem dX12_oddYear_12 : decode cX12_oddYear 12 = .ok (.getfield 49, 3) := by decide +kernel
theorem dX12_oddYear_15 : decode cX12_oddYear 15 = .ok (.iload_n 1, 1) := by decide +kernel
theorem dX12_oddYear_16 : decode cX12_oddYear 16 = .ok (.iaload, 1) := by decide +kernel
theorem dX12_oddYear_17 : decode cX12_oddYear 17 = .ok (.iconst 1, 1) := by decide +kernel
theorem dX12_oddYear_18 : decode cX12_oddYear 18 = .ok (.if_icmp .eq 6, 3) := by decide +kernel
theorem dX12_oddYear_21 : decode cX12_oddYear 21 = .ok (.goto 50, 3) := by decide +kernel
theorem dX12_oddYear_24 : decode cX12_oddYear 24 = .ok (.aload_n 0, 1) := by decide +kernel
theorem dX12_oddYear_25 : decode cX12_oddYear 25 = .ok (.getfield 9, 3) := by decide +kernel
theorem dX12_oddYear_28 : decode cX12_oddYear 28 = .ok (.iconst 3, 1) := by decide +kernel
theorem dX12_oddYear_29 : decode cX12_oddYear 29 = .ok (.iaload, 1) := by decide +kernel
theorem dX12_oddYear_30 : decode cX12_oddYear 30 = .ok (.iconst 1, 1) := by decide +kernel
theorem dX12_oddYear_31 : decode cX12_oddYear 31 = .ok (.if_icmp .ne 21, 3) := by decide +kernel
theorem dX12_oddYear_34 : decode cX12_oddYear 34 = .ok (.aload_n 0, 1) := by decide +kernel
theorem dX12_oddYear_35 : decode cX12_oddYear 35 = .ok (.iload_n 1, 1) := by decide +kernel
theorem dX12_oddYear_36 : decode cX12_oddYear 36 = .ok (.invokevirtual 200, 3) := by decide +kernel
theorem dX12_oddYear_39 : decode cX12_oddYear 39 = .ok (.ifCond .eq 13, 3) := by decide +kernel
theorem dX12_oddYear_42 : decode cX12_oddYear 42 = .ok (.aload_n 0, 1) := by decide +kernel
theorem dX12_oddYear_43 : decode cX12_oddYear 43 = .ok (.getfield 49, 3) := by decide +kernel
theorem dX12_oddYear_46 : decode cX12_oddYear 46 = .ok (.iload_n 1, 1) := by decide +kernel
theorem dX12_oddYear_47 : decode cX12_oddYear 47 = .ok (.iconst 4, 1) := by decide +kernel
theorem dX12_oddYear_48 : decode cX12_oddYear 48 = .ok (.iastore, 1) := by decide +kernel
theorem dX12_oddYear_49 : decode cX12_oddYear 49 = .ok (.goto 22, 3) := by decide +kernel
theorem dX12_oddYear_52 : decode cX12_oddYear 52 = .ok (.aload_n 0, 1) := by decide +kernel
theorem dX12_oddYear_53 : decode cX12_oddYear 53 = .ok (.iload_n 1, 1) := by decide +kernel
theorem dX12_oddYear_54 : decode cX12_oddYear 54 = .ok (.iconst 1, 1) := by decide +kernel
theorem dX12_oddYear_55 : decode cX12_oddYear 55 = .ok (.invokevirtual 196, 3) := by decide +kernel
theorem dX12_oddYear_58 : decode cX12_oddYear 58 = .ok (.aload_n 0, 1) := by decide +kernel
theorem dX12_oddYear_59 : decode cX12_oddYear 59 = .ok (.getfield 9, 3) := by decide +kernel
theorem dX12_oddYear_62 : decode cX12_oddYear 62 = .ok (.iconst 3, 1) := by decide +kernel
theorem dX12_oddYear_63 : decode cX12_oddYear 63 = .ok (.iaload, 1) := by decide +kernel
theorem dX12_oddYear_64 : decode cX12_oddYear 64 = .ok (.ifCond .ne 7, 3) := by decide +kernel
theorem dX12_oddYear_67 : decode cX12_oddYear 67 = .ok (.aload_n 0, 1) := by decide +kernel
theorem dX12_oddYear_68 : decode cX12_oddYear 68 = .ok (.invokevirtual 203, 3) := by decide +kernel
theorem dX12_oddYear_71 : decode cX12_oddYear 71 = .ok (.iinc 1 (-1), 3) := by decide +kernel
theorem dX12_oddYear_74 : decode cX12_oddYear 74 = .ok (.goto (-67), 3) := by decide +kernel
theorem dX12_oddYear_77 : decode cX12_oddYear 77 = .ok (.return_, 1) := by decide +kernel
theorem dX12_pairOf_0 : decode cX12_pairOf 0 = .ok (.aload_n 0, 1) := by decide +kernel
theorem dX12_pairOf_1 : decode cX12_pairOf 1 = .ok (.invokevirtual 206, 3) := by decide +kernel
theorem dX12_pairOf_4 : decode cX12_pairOf 4 = .ok (.aload_n 0, 1) := by decide +kernel
theorem dX12_pairOf_5 : decode cX12_pairOf 5 = .ok (.invokevirtual 209, 3) := by decide +kernel
theorem dX12_pairOf_8 : decode cX12_pairOf 8 = .ok (.return_, 1) := by decide +kernel
theorem dX12_standing_0 : decode cX12_standing 0 = .ok (.iconst 0, 1) := by decide +kernel
theorem dX12_standing_1 : decode cX12_standing 1 = .ok (.istore_n 1, 1) := by decide +kernel
theorem dX12_standing_2 : decode cX12_standing 2 = .ok (.iconst 0, 1) := by decide +kernel
theorem dX12_standing_3 : decode cX12_standing 3 = .ok (.istore_n 2, 1) := by decide +kernel
theorem dX12_standing_4 : decode cX12_standing 4 = .ok (.iload_n 2, 1) := by decide +kernel
theorem dX12_standing_5 : decode cX12_standing 5 = .ok (.aload_n 0, 1) := by decide +kernel
theorem dX12_standing_6 : decode cX12_standing 6 = .ok (.getfield 166, 3) := by decide +kernel
theorem dX12_standing_9 : decode cX12_standing 9 = .ok (.if_icmp .ge 47, 3) := by decide +kernel
theorem dX12_standing_12 : decode cX12_standing 12 = .ok (.iload_n 1, 1) := by decide +kernel
theorem dX12_standing_13 : decode cX12_standing 13 = .ok (.aload_n 0, 1) := by decide +kernel
theorem dX12_standing_14 : decode cX12_standing 14 = .ok (.getfield 49, 3) := by decide +kernel
theorem dX12_standing_17 : decode cX12_standing 17 = .ok (.iload_n 2, 1) := by decide +kernel
theorem dX12_standing_18 : decode cX12_standing 18 = .ok (.iaload, 1) := by decide +kernel
theorem dX12_standing_19 : decode cX12_standing 19 = .ok (.iconst 2, 1) := by decide +kernel
theorem dX12_standing_20 : decode cX12_standing 20 = .ok (.if_icmp .eq 23, 3) := by decide +kernel
theorem dX12_standing_23 : decode cX12_standing 23 = .ok (.aload_n 0, 1) := by decide +kernel
theorem dX12_standing_24 : decode cX12_standing 24 = .ok (.getfield 49, 3) := by decide +kernel
theorem dX12_standing_27 : decode cX12_standing 27 = .ok (.iload_n 2, 1) := by decide +kernel
theorem dX12_standing_28 : decode cX12_standing 28 = .ok (.iaload, 1) := by decide +kernel
theorem dX12_standing_29 : decode cX12_standing 29 = .ok (.iconst 3, 1) := by decide +kernel
theorem dX12_standing_30 : decode cX12_standing 30 = .ok (.if_icmp .eq 13, 3) := by decide +kernel
theorem dX12_standing_33 : decode cX12_standing 33 = .ok (.aload_n 0, 1) := by decide +kernel
theorem dX12_standing_34 : decode cX12_standing 34 = .ok (.getfield 49, 3) := by decide +kernel
theorem dX12_standing_37 : decode cX12_standing 37 = .ok (.iload_n 2, 1) := by decide +kernel
theorem dX12_standing_38 : decode cX12_standing 38 = .ok (.iaload, 1) := by decide +kernel
theorem dX12_standing_39 : decode cX12_standing 39 = .ok (.iconst 4, 1) := by decide +kernel
theorem dX12_standing_40 : decode cX12_standing 40 = .ok (.if_icmp .ne 7, 3) := by decide +kernel
theorem dX12_standing_43 : decode cX12_standing 43 = .ok (.iconst 1, 1) := by decide +kernel
theorem dX12_standing_44 : decode cX12_standing 44 = .ok (.goto 4, 3) := by decide +kernel
theorem dX12_standing_47 : decode cX12_standing 47 = .ok (.iconst 0, 1) := by decide +kernel
theorem dX12_standing_48 : decode cX12_standing 48 = .ok (.iadd, 1) := by decide +kernel
theorem dX12_standing_49 : decode cX12_standing 49 = .ok (.istore_n 1, 1) := by decide +kernel
theorem dX12_standing_50 : decode cX12_standing 50 = .ok (.iinc 2 1, 3) := by decide +kernel
theorem dX12_standing_53 : decode cX12_standing 53 = .ok (.goto (-49), 3) := by decide +kernel
theorem dX12_standing_56 : decode cX12_standing 56 = .ok (.iload_n 1, 1) := by decide +kernel
theorem dX12_standing_57 : decode cX12_standing 57 = .ok (.ireturn, 1) := by decide +kernel
theorem dX12_areNails_0 : decode cX12_areNails 0 = .ok (.iload_n 0, 1) := by decide +kernel
theorem dX12_areNails_1 : decode cX12_areNails 1 = .ok (.i2l, 1) := by decide +kernel
theorem dX12_areNails_2 : decode cX12_areNails 2 = .ok (.lconst 0, 1) := by decide +kernel
theorem dX12_areNails_3 : decode cX12_areNails 3 = .ok (.ldc2_w 212, 3) := by decide +kernel
theorem dX12_areNails_6 : decode cX12_areNails 6 = .ok (.invokestatic 65, 3) := by decide +kernel
theorem dX12_areNails_9 : decode cX12_areNails 9 = .ok (.ireturn, 1) := by decide +kernel
theorem dX12_pair_0 : decode cX12_pair 0 = .ok (.iload_n 1, 1) := by decide +kernel
theorem dX12_pair_1 : decode cX12_pair 1 = .ok (.invokestatic 123, 3) := by decide +kernel
theorem dX12_pair_4 : decode cX12_pair 4 = .ok (.ifCond .eq 10, 3) := by decide +kernel
theorem dX12_pair_7 : decode cX12_pair 7 = .ok (.iload_n 2, 1) := by decide +kernel
theorem dX12_pair_8 : decode cX12_pair 8 = .ok (.invokestatic 214, 3) := by decide +kernel
theorem dX12_pair_11 : decode cX12_pair 11 = .ok (.ifCond .ne 5, 3) := by decide +kernel
theorem dX12_pair_14 : decode cX12_pair 14 = .ok (.iconst (-1), 1) := by decide +kernel
theorem dX12_pair_15 : decode cX12_pair 15 = .ok (.ireturn, 1) := by decide +kernel
theorem dX12_pair_16 : decode cX12_pair 16 = .ok (.aload_n 0, 1) := by decide +kernel
theorem dX12_pair_17 : decode cX12_pair 17 = .ok (.iload_n 1, 1) := by decide +kernel
theorem dX12_pair_18 : decode cX12_pair 18 = .ok (.invokevirtual 217, 3) := by decide +kernel
theorem dX12_pair_21 : decode cX12_pair 21 = .ok (.istore_n 3, 1) := by decide +kernel
theorem dX12_pair_22 : decode cX12_pair 22 = .ok (.iload_n 3, 1) := by decide +kernel
theorem dX12_pair_23 : decode cX12_pair 23 = .ok (.ifCond .eq 5, 3) := by decide +kernel
theorem dX12_pair_26 : decode cX12_pair 26 = .ok (.iload_n 3, 1) := by decide +kernel
theorem dX12_pair_27 : decode cX12_pair 27 = .ok (.ireturn, 1) := by decide +kernel
theorem dX12_pair_28 : decode cX12_pair 28 = .ok (.aload_n 0, 1) := by decide +kernel
theorem dX12_pair_29 : decode cX12_pair 29 = .ok (.iload_n 1, 1) := by decide +kernel
theorem dX12_pair_30 : decode cX12_pair 30 = .ok (.iload_n 2, 1) := by decide +kernel
theorem dX12_pair_31 : decode cX12_pair 31 = .ok (.invokevirtual 220, 3) := by decide +kernel
theorem dX12_pair_34 : decode cX12_pair 34 = .ok (.aload_n 0, 1) := by decide +kernel
theorem dX12_pair_35 : decode cX12_pair 35 = .ok (.invokevirtual 223, 3) := by decide +kernel
theorem dX12_pair_38 : decode cX12_pair 38 = .ok (.aload_n 0, 1) := by decide +kernel
theorem dX12_pair_39 : decode cX12_pair 39 = .ok (.getfield 9, 3) := by decide +kernel
theorem dX12_pair_42 : decode cX12_pair 42 = .ok (.iconst 0, 1) := by decide +kernel
theorem dX12_pair_43 : decode cX12_pair 43 = .ok (.aload_n 0, 1) := by decide +kernel
theorem dX12_pair_44 : decode cX12_pair 44 = .ok (.getfield 175, 3) := by decide +kernel
theorem dX12_pair_47 : decode cX12_pair 47 = .ok (.iastore, 1) := by decide +kernel
theorem dX12_pair_48 : decode cX12_pair 48 = .ok (.aload_n 0, 1) := by decide +kernel
theorem dX12_pair_49 : decode cX12_pair 49 = .ok (.getfield 9, 3) := by decide +kernel
theorem dX12_pair_52 : decode cX12_pair 52 = .ok (.iconst 1, 1) := by decide +kernel
theorem dX12_pair_53 : decode cX12_pair 53 = .ok (.aload_n 0, 1) := by decide +kernel
theorem dX12_pair_54 : decode cX12_pair 54 = .ok (.getfield 178, 3) := by decide +kernel
theorem dX12_pair_57 : decode cX12_pair 57 = .ok (.iastore, 1) := by decide +kernel
theorem dX12_pair_58 : decode cX12_pair 58 = .ok (.aload_n 0, 1) := by decide +kernel
theorem dX12_pair_59 : decode cX12_pair 59 = .ok (.getfield 9, 3) := by decide +kernel
theorem dX12_pair_62 : decode cX12_pair 62 = .ok (.iconst 2, 1) := by decide +kernel
theorem dX12_pair_63 : decode cX12_pair 63 = .ok (.dup2, 1) := by decide +kernel
theorem dX12_pair_64 : decode cX12_pair 64 = .ok (.iaload, 1) := by decide +kernel
theorem dX12_pair_65 : decode cX12_pair 65 = .ok (.iconst 2, 1) := by decide +kernel
theorem dX12_pair_66 : decode cX12_pair 66 = .ok (.iadd, 1) := by decide +kernel
theorem dX12_pair_67 : decode cX12_pair 67 = .ok (.iastore, 1) := by decide +kernel
theorem dX12_pair_68 : decode cX12_pair 68 = .ok (.aload_n 0, 1) := by decide +kernel
theorem dX12_pair_69 : decode cX12_pair 69 = .ok (.invokevirtual 226, 3) := by decide +kernel
theorem dX12_pair_72 : decode cX12_pair 72 = .ok (.ireturn, 1) := by decide +kernel
theorem dX12_even_0 : decode cX12_even 0 = .ok (.aload_n 0, 1) := by decide +kernel
theorem dX12_even_1 : decode cX12_even 1 = .ok (.iload_n 1, 1) := by decide +kernel
theorem dX12_even_2 : decode cX12_even 2 = .ok (.invokevirtual 217, 3) := by decide +kernel
theorem dX12_even_5 : decode cX12_even 5 = .ok (.istore_n 2, 1) := by decide +kernel
theorem dX12_even_6 : decode cX12_even 6 = .ok (.iload_n 2, 1) := by decide +kernel
theorem dX12_even_7 : decode cX12_even 7 = .ok (.ifCond .eq 5, 3) := by decide +kernel
theorem dX12_even_10 : decode cX12_even 10 = .ok (.iload_n 2, 1) := by decide +kernel
theorem dX12_even_11 : decode cX12_even 11 = .ok (.ireturn, 1) := by decide +kernel
theorem dX12_even_12 : decode cX12_even 12 = .ok (.aload_n 0, 1) := by decide +kernel
theorem dX12_even_13 : decode cX12_even 13 = .ok (.iload_n 1, 1) := by decide +kernel
theorem dX12_even_14 : decode cX12_even 14 = .ok (.iconst 0, 1) := by decide +kernel
theorem dX12_even_15 : decode cX12_even 15 = .ok (.invokevirtual 220, 3) := by decide +kernel
theorem dX12_even_18 : decode cX12_even 18 = .ok (.aload_n 0, 1) := by decide +kernel
theorem dX12_even_19 : decode cX12_even 19 = .ok (.invokevirtual 206, 3) := by decide +kernel
theorem dX12_even_22 : decode cX12_even 22 = .ok (.aload_n 0, 1) := by decide +kernel
theorem dX12_even_23 : decode cX12_even 23 = .ok (.getfield 9, 3) := by decide +kernel
theorem dX12_even_26 : decode cX12_even 26 = .ok (.iconst 0, 1) := by decide +kernel
theorem dX12_even_27 : decode cX12_even 27 = .ok (.aload_n 0, 1) := by decide +kernel
theorem dX12_even_28 : decode cX12_even 28 = .ok (.getfield 175, 3) := by decide +kernel
theorem dX12_even_31 : decode cX12_even 31 = .ok (.iastore, 1) := by decide +kernel
theorem dX12_even_32 : decode cX12_even 32 = .ok (.aload_n 0, 1) := by decide +kernel
theorem dX12_even_33 : decode cX12_even 33 = .ok (.getfield 9, 3) := by decide +kernel
theorem dX12_even_36 : decode cX12_even 36 = .ok (.iconst 1, 1) := by decide +kernel
theorem dX12_even_37 : decode cX12_even 37 = .ok (.aload_n 0, 1) := by decide +kernel
theorem dX12_even_38 : decode cX12_even 38 = .ok (.getfield 178, 3) := by decide +kernel
theorem dX12_even_41 : decode cX12_even 41 = .ok (.iastore, 1) := by decide +kernel
theorem dX12_even_42 : decode cX12_even 42 = .ok (.aload_n 0, 1) := by decide +kernel
theorem dX12_even_43 : decode cX12_even 43 = .ok (.getfield 9, 3) := by decide +kernel
theorem dX12_even_46 : decode cX12_even 46 = .ok (.iconst 2, 1) := by decide +kernel
theorem dX12_even_47 : decode cX12_even 47 = .ok (.dup2, 1) := by decide +kernel
theorem dX12_even_48 : decode cX12_even 48 = .ok (.iaload, 1) := by decide +kernel
theorem dX12_even_49 : decode cX12_even 49 = .ok (.iconst 1, 1) := by decide +kernel
theorem dX12_even_50 : decode cX12_even 50 = .ok (.iadd, 1) := by decide +kernel
theorem dX12_even_51 : decode cX12_even 51 = .ok (.iastore, 1) := by decide +kernel
theorem dX12_even_52 : decode cX12_even 52 = .ok (.iconst 0, 1) := by decide +kernel
theorem dX12_even_53 : decode cX12_even 53 = .ok (.istore_n 3, 1) := by decide +kernel
theorem dX12_even_54 : decode cX12_even 54 = .ok (.iconst 0, 1) := by decide +kernel
theorem dX12_even_55 : decode cX12_even 55 = .ok (.istore 4, 2) := by decide +kernel
theorem dX12_even_57 : decode cX12_even 57 = .ok (.iload 4, 2) := by decide +kernel
theorem dX12_even_59 : decode cX12_even 59 = .ok (.aload_n 0, 1) := by decide +kernel
theorem dX12_even_60 : decode cX12_even 60 = .ok (.getfield 166, 3) := by decide +kernel
theorem dX12_even_63 : decode cX12_even 63 = .ok (.if_icmp .ge 27, 3) := by decide +kernel
theorem dX12_even_66 : decode cX12_even 66 = .ok (.iload_n 3, 1) := by decide +kernel
theorem dX12_even_67 : decode cX12_even 67 = .ok (.aload_n 0, 1) := by decide +kernel
theorem dX12_even_68 : decode cX12_even 68 = .ok (.getfield 49, 3) := by decide +kernel
theorem dX12_even_71 : decode cX12_even 71 = .ok (.iload 4, 2) := by decide +kernel
theorem dX12_even_73 : decode cX12_even 73 = .ok (.iaload, 1) := by decide +kernel
theorem dX12_even_74 : decode cX12_even 74 = .ok (.ifCond .eq 7, 3) := by decide +kernel
theorem dX12_even_77 : decode cX12_even 77 = .ok (.iconst 1, 1) := by decide +kernel
theorem dX12_even_78 : decode cX12_even 78 = .ok (.goto 4, 3) := by decide +kernel
theorem dX12_even_81 : decode cX12_even 81 = .ok (.iconst 0, 1) := by decide +kernel
theorem dX12_even_82 : decode cX12_even 82 = .ok (.iadd, 1) := by decide +kernel
theorem dX12_even_83 : decode cX12_even 83 = .ok (.istore_n 3, 1) := by decide +kernel
theorem dX12_even_84 : decode cX12_even 84 = .ok (.iinc 4 1, 3) := by decide +kernel
theorem dX12_even_87 : decode cX12_even 87 = .ok (.goto (-30), 3) := by decide +kernel
theorem dX12_even_90 : decode cX12_even 90 = .ok (.iload_n 3, 1) := by decide +kernel
theorem dX12_even_91 : decode cX12_even 91 = .ok (.ireturn, 1) := by decide +kernel
theorem dX12_lasts_0 : decode cX12_lasts 0 = .ok (.iload_n 1, 1) := by decide +kernel
theorem dX12_lasts_1 : decode cX12_lasts 1 = .ok (.invokestatic 123, 3) := by decide +kernel
theorem dX12_lasts_4 : decode cX12_lasts 4 = .ok (.ifCond .eq 17, 3) := by decide +kernel
theorem dX12_lasts_7 : decode cX12_lasts 7 = .ok (.iload_n 2, 1) := by decide +kernel
theorem dX12_lasts_8 : decode cX12_lasts 8 = .ok (.invokestatic 214, 3) := by decide +kernel
theorem dX12_lasts_11 : decode cX12_lasts 11 = .ok (.ifCond .eq 10, 3) := by decide +kernel
theorem dX12_lasts_14 : decode cX12_lasts 14 = .ok (.iload_n 3, 1) := by decide +kernel
theorem dX12_lasts_15 : decode cX12_lasts 15 = .ok (.invokestatic 229, 3) := by decide +kernel
theorem dX12_lasts_18 : decode cX12_lasts 18 = .ok (.ifCond .ne 5, 3) := by decide +kernel
theorem dX12_lasts_21 : decode cX12_lasts 21 = .ok (.iconst (-1), 1) := by decide +kernel
theorem dX12_lasts_22 : decode cX12_lasts 22 = .ok (.ireturn, 1) := by decide +kernel
theorem dX12_lasts_23 : decode cX12_lasts 23 = .ok (.aload_n 0, 1) := by decide +kernel
theorem dX12_lasts_24 : decode cX12_lasts 24 = .ok (.iload_n 1, 1) := by decide +kernel
theorem dX12_lasts_25 : decode cX12_lasts 25 = .ok (.invokevirtual 217, 3) := by decide +kernel
theorem dX12_lasts_28 : decode cX12_lasts 28 = .ok (.istore 4, 2) := by decide +kernel
theorem dX12_lasts_30 : decode cX12_lasts 30 = .ok (.iload 4, 2) := by decide +kernel
theorem dX12_lasts_32 : decode cX12_lasts 32 = .ok (.ifCond .eq 6, 3) := by decide +kernel
theorem dX12_lasts_35 : decode cX12_lasts 35 = .ok (.iload 4, 2) := by decide +kernel
theorem dX12_lasts_37 : decode cX12_lasts 37 = .ok (.ireturn, 1) := by decide +kernel
theorem dX12_lasts_38 : decode cX12_lasts 38 = .ok (.aload_n 0, 1) := by decide +kernel
theorem dX12_lasts_39 : decode cX12_lasts 39 = .ok (.iload_n 1, 1) := by decide +kernel
theorem dX12_lasts_40 : decode cX12_lasts 40 = .ok (.iload_n 2, 1) := by decide +kernel
theorem dX12_lasts_41 : decode cX12_lasts 41 = .ok (.invokevirtual 220, 3) := by decide +kernel
theorem dX12_lasts_44 : decode cX12_lasts 44 = .ok (.aload_n 0, 1) := by decide +kernel
theorem dX12_lasts_45 : decode cX12_lasts 45 = .ok (.invokevirtual 223, 3) := by decide +kernel
theorem dX12_lasts_48 : decode cX12_lasts 48 = .ok (.aload_n 0, 1) := by decide +kernel
theorem dX12_lasts_49 : decode cX12_lasts 49 = .ok (.getfield 175, 3) := by decide +kernel
theorem dX12_lasts_52 : decode cX12_lasts 52 = .ok (.iload_n 3, 1) := by decide +kernel
theorem dX12_lasts_53 : decode cX12_lasts 53 = .ok (.ishr, 1) := by decide +kernel
theorem dX12_lasts_54 : decode cX12_lasts 54 = .ok (.iconst 1, 1) := by decide +kernel
theorem dX12_lasts_55 : decode cX12_lasts 55 = .ok (.iand, 1) := by decide +kernel
theorem dX12_lasts_56 : decode cX12_lasts 56 = .ok (.ireturn, 1) := by decide +kernel
theorem dX12_why_0 : decode cX12_why 0 = .ok (.iload_n 1, 1) := by decide +kernel
theorem dX12_why_1 : decode cX12_why 1 = .ok (.invokestatic 123, 3) := by decide +kernel
theorem dX12_why_4 : decode cX12_why 4 = .ok (.ifCond .eq 10, 3) := by decide +kernel
theorem dX12_why_7 : decode cX12_why 7 = .ok (.iload_n 2, 1) := by decide +kernel
theorem dX12_why_8 : decode cX12_why 8 = .ok (.invokestatic 214, 3) := by decide +kernel
theorem dX12_why_11 : decode cX12_why 11 = .ok (.ifCond .ne 5, 3) := by decide +kernel
theorem dX12_why_14 : decode cX12_why 14 = .ok (.iconst (-1), 1) := by decide +kernel
theorem dX12_why_15 : decode cX12_why 15 = .ok (.ireturn, 1) := by decide +kernel
theorem dX12_why_16 : decode cX12_why 16 = .ok (.aload_n 0, 1) := by decide +kernel
theorem dX12_why_17 : decode cX12_why 17 = .ok (.iload_n 1, 1) := by decide +kernel
theorem dX12_why_18 : decode cX12_why 18 = .ok (.invokevirtual 217, 3) := by decide +kernel
theorem dX12_why_21 : decode cX12_why 21 = .ok (.istore 4, 2) := by decide +kernel
theorem dX12_why_23 : decode cX12_why 23 = .ok (.iload 4, 2) := by decide +kernel
theorem dX12_why_25 : decode cX12_why 25 = .ok (.ifCond .eq 6, 3) := by decide +kernel
theorem dX12_why_28 : decode cX12_why 28 = .ok (.iload 4, 2) := by decide +kernel
theorem dX12_why_30 : decode cX12_why 30 = .ok (.ireturn, 1) := by decide +kernel
theorem dX12_why_31 : decode cX12_why 31 = .ok (.iload_n 3, 1) := by decide +kernel
theorem dX12_why_32 : decode cX12_why 32 = .ok (.i2l, 1) := by decide +kernel
theorem dX12_why_33 : decode cX12_why 33 = .ok (.lconst 0, 1) := by decide +kernel
theorem dX12_why_34 : decode cX12_why 34 = .ok (.aload_n 0, 1) := by decide +kernel
theorem dX12_why_35 : decode cX12_why 35 = .ok (.getfield 25, 3) := by decide +kernel
theorem dX12_why_38 : decode cX12_why 38 = .ok (.iload_n 1, 1) := by decide +kernel
theorem dX12_why_39 : decode cX12_why 39 = .ok (.iaload, 1) := by decide +kernel
theorem dX12_why_40 : decode cX12_why 40 = .ok (.iconst 1, 1) := by decide +kernel
theorem dX12_why_41 : decode cX12_why 41 = .ok (.isub, 1) := by decide +kernel
theorem dX12_why_42 : decode cX12_why 42 = .ok (.i2l, 1) := by decide +kernel
theorem dX12_why_43 : decode cX12_why 43 = .ok (.invokestatic 65, 3) := by decide +kernel
theorem dX12_why_46 : decode cX12_why 46 = .ok (.ifCond .ne 6, 3) := by decide +kernel
theorem dX12_why_49 : decode cX12_why 49 = .ok (.bipush (-13), 2) := by decide +kernel
theorem dX12_why_51 : decode cX12_why 51 = .ok (.ireturn, 1) := by decide +kernel
theorem dX12_why_52 : decode cX12_why 52 = .ok (.aload_n 0, 1) := by decide +kernel
theorem dX12_why_53 : decode cX12_why 53 = .ok (.iload_n 1, 1) := by decide +kernel
theorem dX12_why_54 : decode cX12_why 54 = .ok (.iload_n 2, 1) := by decide +kernel
theorem dX12_why_55 : decode cX12_why 55 = .ok (.invokevirtual 220, 3) := by decide +kernel
theorem dX12_why_58 : decode cX12_why 58 = .ok (.aload_n 0, 1) := by decide +kernel
theorem dX12_why_59 : decode cX12_why 59 = .ok (.invokevirtual 223, 3) := by decide +kernel
theorem dX12_why_62 : decode cX12_why 62 = .ok (.aload_n 0, 1) := by decide +kernel
theorem dX12_why_63 : decode cX12_why 63 = .ok (.getfield 49, 3) := by decide +kernel
theorem dX12_why_66 : decode cX12_why 66 = .ok (.iload_n 3, 1) := by decide +kernel
theorem dX12_why_67 : decode cX12_why 67 = .ok (.iaload, 1) := by decide +kernel
theorem dX12_why_68 : decode cX12_why 68 = .ok (.ireturn, 1) := by decide +kernel
theorem dX12_behind_0 : decode cX12_behind 0 = .ok (.iload_n 1, 1) := by decide +kernel
theorem dX12_behind_1 : decode cX12_behind 1 = .ok (.invokestatic 123, 3) := by decide +kernel
theorem dX12_behind_4 : decode cX12_behind 4 = .ok (.ifCond .eq 22, 3) := by decide +kernel
theorem dX12_behind_7 : decode cX12_behind 7 = .ok (.iload_n 2, 1) := by decide +kernel
theorem dX12_behind_8 : decode cX12_behind 8 = .ok (.invokestatic 214, 3) := by decide +kernel
theorem dX12_behind_11 : decode cX12_behind 11 = .ok (.ifCond .eq 15, 3) := by decide +kernel
theorem dX12_behind_14 : decode cX12_behind 14 = .ok (.iload_n 3, 1) := by decide +kernel
theorem dX12_behind_15 : decode cX12_behind 15 = .ok (.i2l, 1) := by decide +kernel
theorem dX12_behind_16 : decode cX12_behind 16 = .ok (.lconst 0, 1) := by decide +kernel
theorem dX12_behind_17 : decode cX12_behind 17 = .ok (.ldc2_w 154, 3) := by decide +kernel
theorem dX12_behind_20 : decode cX12_behind 20 = .ok (.invokestatic 65, 3) := by decide +kernel
theorem dX12_behind_23 : decode cX12_behind 23 = .ok (.ifCond .ne 5, 3) := by decide +kernel
theorem dX12_behind_26 : decode cX12_behind 26 = .ok (.iconst (-1), 1) := by decide +kernel
theorem dX12_behind_27 : decode cX12_behind 27 = .ok (.ireturn, 1) := by decide +kernel
theorem dX12_behind_28 : decode cX12_behind 28 = .ok (.aload_n 0, 1) := by decide +kernel
theorem dX12_behind_29 : decode cX12_behind 29 = .ok (.iload_n 1, 1) := by decide +kernel
theorem dX12_behind_30 : decode cX12_behind 30 = .ok (.invokevirtual 217, 3) := by decide +kernel
theorem dX12_behind_33 : decode cX12_behind 33 = .ok (.istore 4, 2) := by decide +kernel
theorem dX12_behind_35 : decode cX12_behind 35 = .ok (.iload 4, 2) := by decide +kernel
theorem dX12_behind_37 : decode cX12_behind 37 = .ok (.ifCond .eq 6, 3) := by decide +kernel
theorem dX12_behind_40 : decode cX12_behind 40 = .ok (.iload 4, 2) := by decide +kernel
theorem dX12_behind_42 : decode cX12_behind 42 = .ok (.ireturn, 1) := by decide +kernel
theorem dX12_behind_43 : decode cX12_behind 43 = .ok (.aload_n 0, 1) := by decide +kernel
theorem dX12_behind_44 : decode cX12_behind 44 = .ok (.iload_n 1, 1) := by decide +kernel
theorem dX12_behind_45 : decode cX12_behind 45 = .ok (.iload_n 2, 1) := by decide +kernel
theorem dX12_behind_46 : decode cX12_behind 46 = .ok (.invokevirtual 220, 3) := by decide +kernel
theorem dX12_behind_49 : decode cX12_behind 49 = .ok (.aload_n 0, 1) := by decide +kernel
theorem dX12_behind_50 : decode cX12_behind 50 = .ok (.invokevirtual 223, 3) := by decide +kernel
theorem dX12_behind_53 : decode cX12_behind 53 = .ok (.iload_n 3, 1) := by decide +kernel
theorem dX12_behind_54 : decode cX12_behind 54 = .ok (.ifCond .ne 10, 3) := by decide +kernel
theorem dX12_behind_57 : decode cX12_behind 57 = .ok (.aload_n 0, 1) := by decide +kernel
theorem dX12_behind_58 : decode cX12_behind 58 = .ok (.getfield 175, 3) := by decide +kernel
theorem dX12_behind_61 : decode cX12_behind 61 = .ok (.goto 31, 3) := by decide +kernel
theorem dX12_behind_64 : decode cX12_behind 64 = .ok (.iload_n 3, 1) := by decide +kernel
theorem dX12_behind_65 : decode cX12_behind 65 = .ok (.iconst 1, 1) := by decide +kernel
theorem dX12_behind_66 : decode cX12_behind 66 = .ok (.if_icmp .ne 10, 3) := by decide +kernel
theorem dX12_behind_69 : decode cX12_behind 69 = .ok (.aload_n 0, 1) := by decide +kernel
theorem dX12_behind_70 : decode cX12_behind 70 = .ok (.getfield 178, 3) := by decide +kernel
theorem dX12_behind_73 : decode cX12_behind 73 = .ok (.goto 19, 3) := by decide +kernel
theorem dX12_behind_76 : decode cX12_behind 76 = .ok (.iload_n 3, 1) := by decide +kernel
theorem dX12_behind_77 : decode cX12_behind 77 = .ok (.iconst 2, 1) := by decide +kernel
theorem dX12_behind_78 : decode cX12_behind 78 = .ok (.if_icmp .ne 10, 3) := by decide +kernel
theorem dX12_behind_81 : decode cX12_behind 81 = .ok (.aload_n 0, 1) := by decide +kernel
theorem dX12_behind_82 : decode cX12_behind 82 = .ok (.getfield 184, 3) := by decide +kernel
theorem dX12_behind_85 : decode cX12_behind 85 = .ok (.goto 7, 3) := by decide +kernel
theorem dX12_behind_88 : decode cX12_behind 88 = .ok (.aload_n 0, 1) := by decide +kernel
theorem dX12_behind_89 : decode cX12_behind 89 = .ok (.getfield 181, 3) := by decide +kernel
theorem dX12_behind_92 : decode cX12_behind 92 = .ok (.ireturn, 1) := by decide +kernel
theorem dX12_finds_0 : decode cX12_finds 0 = .ok (.aload_n 0, 1) := by decide +kernel
theorem dX12_finds_1 : decode cX12_finds 1 = .ok (.bipush (-4), 2) := by decide +kernel
theorem dX12_finds_3 : decode cX12_finds 3 = .ok (.putfield 232, 3) := by decide +kernel
theorem dX12_finds_6 : decode cX12_finds 6 = .ok (.iconst 0, 1) := by decide +kernel
theorem dX12_finds_7 : decode cX12_finds 7 = .ok (.istore_n 2, 1) := by decide +kernel
theorem dX12_finds_8 : decode cX12_finds 8 = .ok (.iload_n 2, 1) := by decide +kernel
theorem dX12_finds_9 : decode cX12_finds 9 = .ok (.iconst 1, 1) := by decide +kernel
theorem dX12_finds_10 : decode cX12_finds 10 = .ok (.aload_n 0, 1) := by decide +kernel
theorem dX12_finds_11 : decode cX12_finds 11 = .ok (.getfield 166, 3) := by decide +kernel
theorem dX12_finds_14 : decode cX12_finds 14 = .ok (.ishl, 1) := by decide +kernel
theorem dX12_finds_15 : decode cX12_finds 15 = .ok (.if_icmp .ge 98, 3) := by decide +kernel
theorem dX12_finds_18 : decode cX12_finds 18 = .ok (.aload_n 0, 1) := by decide +kernel
theorem dX12_finds_19 : decode cX12_finds 19 = .ok (.iload_n 2, 1) := by decide +kernel
theorem dX12_finds_20 : decode cX12_finds 20 = .ok (.putfield 169, 3) := by decide +kernel
theorem dX12_finds_23 : decode cX12_finds 23 = .ok (.aload_n 0, 1) := by decide +kernel
theorem dX12_finds_24 : decode cX12_finds 24 = .ok (.invokevirtual 172, 3) := by decide +kernel
theorem dX12_finds_27 : decode cX12_finds 27 = .ok (.aload_n 0, 1) := by decide +kernel
theorem dX12_finds_28 : decode cX12_finds 28 = .ok (.invokevirtual 223, 3) := by decide +kernel
theorem dX12_finds_31 : decode cX12_finds 31 = .ok (.iload_n 1, 1) := by decide +kernel
theorem dX12_finds_32 : decode cX12_finds 32 = .ok (.aload_n 0, 1) := by decide +kernel
theorem dX12_finds_33 : decode cX12_finds 33 = .ok (.getfield 175, 3) := by decide +kernel
theorem dX12_finds_36 : decode cX12_finds 36 = .ok (.iconst (-1), 1) := by decide +kernel
theorem dX12_finds_37 : decode cX12_finds 37 = .ok (.ixor, 1) := by decide +kernel
theorem dX12_finds_38 : decode cX12_finds 38 = .ok (.iand, 1) := by decide +kernel
theorem dX12_finds_39 : decode cX12_finds 39 = .ok (.ifCond .eq 6, 3) := by decide +kernel
theorem dX12_finds_42 : decode cX12_finds 42 = .ok (.goto 65, 3) := by decide +kernel
theorem dX12_finds_45 : decode cX12_finds 45 = .ok (.aload_n 0, 1) := by decide +kernel
theorem dX12_finds_46 : decode cX12_finds 46 = .ok (.getfield 232, 3) := by decide +kernel
theorem dX12_finds_49 : decode cX12_finds 49 = .ok (.ifCond .lt 45, 3) := by decide +kernel
theorem dX12_finds_52 : decode cX12_finds 52 = .ok (.iload_n 2, 1) := by decide +kernel
theorem dX12_finds_53 : decode cX12_finds 53 = .ok (.invokestatic 235, 3) := by decide +kernel
theorem dX12_finds_56 : decode cX12_finds 56 = .ok (.aload_n 0, 1) := by decide +kernel
theorem dX12_finds_57 : decode cX12_finds 57 = .ok (.getfield 232, 3) := by decide +kernel
theorem dX12_finds_60 : decode cX12_finds 60 = .ok (.invokestatic 235, 3) := by decide +kernel
theorem dX12_finds_63 : decode cX12_finds 63 = .ok (.if_icmp .gt 44, 3) := by decide +kernel
theorem dX12_finds_66 : decode cX12_finds 66 = .ok (.iload_n 2, 1) := by decide +kernel
theorem dX12_finds_67 : decode cX12_finds 67 = .ok (.invokestatic 235, 3) := by decide +kernel
theorem dX12_finds_70 : decode cX12_finds 70 = .ok (.aload_n 0, 1) := by decide +kernel
theorem dX12_finds_71 : decode cX12_finds 71 = .ok (.getfield 232, 3) := by decide +kernel
theorem dX12_finds_74 : decode cX12_finds 74 = .ok (.invokestatic 235, 3) := by decide +kernel
theorem dX12_finds_77 : decode cX12_finds 77 = .ok (.if_icmp .ne 17, 3) := by decide +kernel
theorem dX12_finds_80 : decode cX12_finds 80 = .ok (.aload_n 0, 1) := by decide +kernel
theorem dX12_finds_81 : decode cX12_finds 81 = .ok (.getfield 181, 3) := by decide +kernel
theorem dX12_finds_84 : decode cX12_finds 84 = .ok (.aload_n 0, 1) := by decide +kernel
theorem dX12_finds_85 : decode cX12_finds 85 = .ok (.getfield 238, 3) := by decide +kernel
theorem dX12_finds_88 : decode cX12_finds 88 = .ok (.if_icmp .lt 6, 3) := by decide +kernel
theorem dX12_finds_91 : decode cX12_finds 91 = .ok (.goto 16, 3) := by decide +kernel
theorem dX12_finds_94 : decode cX12_finds 94 = .ok (.aload_n 0, 1) := by decide +kernel
theorem dX12_finds_95 : decode cX12_finds 95 = .ok (.iload_n 2, 1) := by decide +kernel
theorem dX12_finds_96 : decode cX12_finds 96 = .ok (.putfield 232, 3) := by decide +kernel
theorem dX12_finds_99 : decode cX12_finds 99 = .ok (.aload_n 0, 1) := by decide +kernel
theorem dX12_finds_100 : decode cX12_finds 100 = .ok (.aload_n 0, 1) := by decide +kernel
theorem dX12_finds_101 : decode cX12_finds 101 = .ok (.getfield 181, 3) := by decide +kernel
theorem dX12_finds_104 : decode cX12_finds 104 = .ok (.putfield 238, 3) := by decide +kernel
theorem dX12_finds_107 : decode cX12_finds 107 = .ok (.iinc 2 1, 3) := by decide +kernel
theorem dX12_finds_110 : decode cX12_finds 110 = .ok (.goto (-102), 3) := by decide +kernel
theorem dX12_finds_113 : decode cX12_finds 113 = .ok (.aload_n 0, 1) := by decide +kernel
theorem dX12_finds_114 : decode cX12_finds 114 = .ok (.getfield 232, 3) := by decide +kernel
theorem dX12_finds_117 : decode cX12_finds 117 = .ok (.ifCond .lt 7, 3) := by decide +kernel
theorem dX12_finds_120 : decode cX12_finds 120 = .ok (.iconst 1, 1) := by decide +kernel
theorem dX12_finds_121 : decode cX12_finds 121 = .ok (.goto 4, 3) := by decide +kernel
theorem dX12_finds_124 : decode cX12_finds 124 = .ok (.iconst 0, 1) := by decide +kernel
theorem dX12_finds_125 : decode cX12_finds 125 = .ok (.ireturn, 1) := by decide +kernel
theorem dX12_least_0 : decode cX12_least 0 = .ok (.iload_n 1, 1) := by decide +kernel
theorem dX12_least_1 : decode cX12_least 1 = .ok (.invokestatic 123, 3) := by decide +kernel
theorem dX12_least_4 : decode cX12_least 4 = .ok (.ifCond .eq 27, 3) := by decide +kernel
theorem dX12_least_7 : decode cX12_least 7 = .ok (.iload_n 2, 1) := by decide +kernel
theorem dX12_least_8 : decode cX12_least 8 = .ok (.i2l, 1) := by decide +kernel
theorem dX12_least_9 : decode cX12_least 9 = .ok (.lconst 0, 1) := by decide +kernel
theorem dX12_least_10 : decode cX12_least 10 = .ok (.ldc2_w 241, 3) := by decide +kernel
theorem dX12_least_13 : decode cX12_least 13 = .ok (.invokestatic 65, 3) := by decide +kernel
theorem dX12_least_16 : decode cX12_least 16 = .ok (.ifCond .eq 15, 3) := by decide +kernel
theorem dX12_least_19 : decode cX12_least 19 = .ok (.iload_n 3, 1) := by decide +kernel
theorem dX12_least_20 : decode cX12_least 20 = .ok (.i2l, 1) := by decide +kernel
theorem dX12_least_21 : decode cX12_least 21 = .ok (.lconst 0, 1) := by decide +kernel
theorem dX12_least_22 : decode cX12_least 22 = .ok (.ldc2_w 156, 3) := by decide +kernel
theorem dX12_least_25 : decode cX12_least 25 = .ok (.invokestatic 65, 3) := by decide +kernel
theorem dX12_least_28 : decode cX12_least 28 = .ok (.ifCond .ne 5, 3) := by decide +kernel
theorem dX12_least_31 : decode cX12_least 31 = .ok (.iconst (-1), 1) := by decide +kernel
theorem dX12_least_32 : decode cX12_least 32 = .ok (.ireturn, 1) := by decide +kernel
theorem dX12_least_33 : decode cX12_least 33 = .ok (.aload_n 0, 1) := by decide +kernel
theorem dX12_least_34 : decode cX12_least 34 = .ok (.iload_n 1, 1) := by decide +kernel
theorem dX12_least_35 : decode cX12_least 35 = .ok (.invokevirtual 217, 3) := by decide +kernel
theorem dX12_least_38 : decode cX12_least 38 = .ok (.istore 4, 2) := by decide +kernel
theorem dX12_least_40 : decode cX12_least 40 = .ok (.iload 4, 2) := by decide +kernel
theorem dX12_least_42 : decode cX12_least 42 = .ok (.ifCond .eq 6, 3) := by decide +kernel
theorem dX12_least_45 : decode cX12_least 45 = .ok (.iload 4, 2) := by decide +kernel
theorem dX12_least_47 : decode cX12_least 47 = .ok (.ireturn, 1) := by decide +kernel
theorem dX12_least_48 : decode cX12_least 48 = .ok (.aload_n 0, 1) := by decide +kernel
theorem dX12_least_49 : decode cX12_least 49 = .ok (.iload_n 1, 1) := by decide +kernel
theorem dX12_least_50 : decode cX12_least 50 = .ok (.iconst 0, 1) := by decide +kernel
theorem dX12_least_51 : decode cX12_least 51 = .ok (.invokevirtual 220, 3) := by decide +kernel
theorem dX12_least_54 : decode cX12_least 54 = .ok (.aload_n 0, 1) := by decide +kernel
theorem dX12_least_55 : decode cX12_least 55 = .ok (.iload_n 2, 1) := by decide +kernel
theorem dX12_least_56 : decode cX12_least 56 = .ok (.invokevirtual 243, 3) := by decide +kernel
theorem dX12_least_59 : decode cX12_least 59 = .ok (.ifCond .ne 6, 3) := by decide +kernel
theorem dX12_least_62 : decode cX12_least 62 = .ok (.bipush (-4), 2) := by decide +kernel
theorem dX12_least_64 : decode cX12_least 64 = .ok (.ireturn, 1) := by decide +kernel
theorem dX12_least_65 : decode cX12_least 65 = .ok (.iload_n 3, 1) := by decide +kernel
theorem dX12_least_66 : decode cX12_least 66 = .ok (.ifCond .ne 13, 3) := by decide +kernel
theorem dX12_least_69 : decode cX12_least 69 = .ok (.aload_n 0, 1) := by decide +kernel
theorem dX12_least_70 : decode cX12_least 70 = .ok (.getfield 232, 3) := by decide +kernel
theorem dX12_least_73 : decode cX12_least 73 = .ok (.invokestatic 235, 3) := by decide +kernel
theorem dX12_least_76 : decode cX12_least 76 = .ok (.goto 19, 3) := by decide +kernel
theorem dX12_least_79 : decode cX12_least 79 = .ok (.iload_n 3, 1) := by decide +kernel
theorem dX12_least_80 : decode cX12_least 80 = .ok (.iconst 1, 1) := by decide +kernel
theorem dX12_least_81 : decode cX12_least 81 = .ok (.if_icmp .ne 10, 3) := by decide +kernel
theorem dX12_least_84 : decode cX12_least 84 = .ok (.aload_n 0, 1) := by decide +kernel
theorem dX12_least_85 : decode cX12_least 85 = .ok (.getfield 238, 3) := by decide +kernel
theorem dX12_least_88 : decode cX12_least 88 = .ok (.goto 7, 3) := by decide +kernel
theorem dX12_least_91 : decode cX12_least 91 = .ok (.aload_n 0, 1) := by decide +kernel
theorem dX12_least_92 : decode cX12_least 92 = .ok (.getfield 232, 3) := by decide +kernel
theorem dX12_least_95 : decode cX12_least 95 = .ok (.ireturn, 1) := by decide +kernel
theorem dX12_lines_0 : decode cX12_lines 0 = .ok (.aload_n 0, 1) := by decide +kernel
theorem dX12_lines_1 : decode cX12_lines 1 = .ok (.getfield 25, 3) := by decide +kernel
theorem dX12_lines_4 : decode cX12_lines 4 = .ok (.iload_n 1, 1) := by decide +kernel
theorem dX12_lines_5 : decode cX12_lines 5 = .ok (.iaload, 1) := by decide +kernel
theorem dX12_lines_6 : decode cX12_lines 6 = .ok (.istore 5, 2) := by decide +kernel
theorem dX12_lines_8 : decode cX12_lines 8 = .ok (.iload_n 2, 1) := by decide +kernel
theorem dX12_lines_9 : decode cX12_lines 9 = .ok (.iload 5, 2) := by decide +kernel
theorem dX12_lines_11 : decode cX12_lines 11 = .ok (.if_icmp .ne 127, 3) := by decide +kernel
theorem dX12_lines_14 : decode cX12_lines 14 = .ok (.iconst 0, 1) := by decide +kernel
theorem dX12_lines_15 : decode cX12_lines 15 = .ok (.istore 6, 2) := by decide +kernel
theorem dX12_lines_17 : decode cX12_lines 17 = .ok (.iload 6, 2) := by decide +kernel
theorem dX12_lines_19 : decode cX12_lines 19 = .ok (.iload 5, 2) := by decide +kernel
theorem dX12_lines_21 : decode cX12_lines 21 = .ok (.if_icmp .ge 33, 3) := by decide +kernel
theorem dX12_lines_24 : decode cX12_lines 24 = .ok (.aload_n 0, 1) := by decide +kernel
theorem dX12_lines_25 : decode cX12_lines 25 = .ok (.getfield 40, 3) := by decide +kernel
theorem dX12_lines_28 : decode cX12_lines 28 = .ok (.iload 6, 2) := by decide +kernel
theorem dX12_lines_30 : decode cX12_lines 30 = .ok (.aload_n 0, 1) := by decide +kernel
theorem dX12_lines_31 : decode cX12_lines 31 = .ok (.getfield 28, 3) := by decide +kernel
theorem dX12_lines_34 : decode cX12_lines 34 = .ok (.bipush 100, 2) := by decide +kernel
theorem dX12_lines_36 : decode cX12_lines 36 = .ok (.iload_n 1, 1) := by decide +kernel
theorem dX12_lines_37 : decode cX12_lines 37 = .ok (.imul, 1) := by decide +kernel
theorem dX12_lines_38 : decode cX12_lines 38 = .ok (.aload_n 0, 1) := by decide +kernel
theorem dX12_lines_39 : decode cX12_lines 39 = .ok (.getfield 55, 3) := by decide +kernel
theorem dX12_lines_42 : decode cX12_lines 42 = .ok (.iload 6, 2) := by decide +kernel
theorem dX12_lines_44 : decode cX12_lines 44 = .ok (.iaload, 1) := by decide +kernel
theorem dX12_lines_45 : decode cX12_lines 45 = .ok (.iadd, 1) := by decide +kernel
theorem dX12_lines_46 : decode cX12_lines 46 = .ok (.iaload, 1) := by decide +kernel
theorem dX12_lines_47 : decode cX12_lines 47 = .ok (.iastore, 1) := by decide +kernel
theorem dX12_lines_48 : decode cX12_lines 48 = .ok (.iinc 6 1, 3) := by decide +kernel
theorem dX12_lines_51 : decode cX12_lines 51 = .ok (.goto (-34), 3) := by decide +kernel
theorem dX12_lines_54 : decode cX12_lines 54 = .ok (.aload_n 0, 1) := by decide +kernel
theorem dX12_lines_55 : decode cX12_lines 55 = .ok (.iload 4, 2) := by decide +kernel
theorem dX12_lines_57 : decode cX12_lines 57 = .ok (.invokevirtual 243, 3) := by decide +kernel
theorem dX12_lines_60 : decode cX12_lines 60 = .ok (.ifCond .eq 24, 3) := by decide +kernel
theorem dX12_lines_63 : decode cX12_lines 63 = .ok (.aload_n 0, 1) := by decide +kernel
theorem dX12_lines_64 : decode cX12_lines 64 = .ok (.getfield 246, 3) := by decide +kernel
theorem dX12_lines_67 : decode cX12_lines 67 = .ok (.ifCond .lt 18, 3) := by decide +kernel
theorem dX12_lines_70 : decode cX12_lines 70 = .ok (.aload_n 0, 1) := by decide +kernel
theorem dX12_lines_71 : decode cX12_lines 71 = .ok (.getfield 232, 3) := by decide +kernel
theorem dX12_lines_74 : decode cX12_lines 74 = .ok (.invokestatic 235, 3) := by decide +kernel
theorem dX12_lines_77 : decode cX12_lines 77 = .ok (.aload_n 0, 1) := by decide +kernel
theorem dX12_lines_78 : decode cX12_lines 78 = .ok (.getfield 246, 3) := by decide +kernel
theorem dX12_lines_81 : decode cX12_lines 81 = .ok (.if_icmp .lt 4, 3) := by decide +kernel
theorem dX12_lines_84 : decode cX12_lines 84 = .ok (.return_, 1) := by decide +kernel
theorem dX12_lines_85 : decode cX12_lines 85 = .ok (.aload_n 0, 1) := by decide +kernel
theorem dX12_lines_86 : decode cX12_lines 86 = .ok (.aload_n 0, 1) := by decide +kernel
theorem dX12_lines_87 : decode cX12_lines 87 = .ok (.getfield 232, 3) := by decide +kernel
theorem dX12_lines_90 : decode cX12_lines 90 = .ok (.invokestatic 235, 3) := by decide +kernel
theorem dX12_lines_93 : decode cX12_lines 93 = .ok (.putfield 246, 3) := by decide +kernel
theorem dX12_lines_96 : decode cX12_lines 96 = .ok (.aload_n 0, 1) := by decide +kernel
theorem dX12_lines_97 : decode cX12_lines 97 = .ok (.iconst 0, 1) := by decide +kernel
theorem dX12_lines_98 : decode cX12_lines 98 = .ok (.putfield 249, 3) := by decide +kernel
theorem dX12_lines_101 : decode cX12_lines 101 = .ok (.iload 5, 2) := by decide +kernel
theorem dX12_lines_103 : decode cX12_lines 103 = .ok (.iconst 1, 1) := by decide +kernel
theorem dX12_lines_104 : decode cX12_lines 104 = .ok (.isub, 1) := by decide +kernel
theorem dX12_lines_105 : decode cX12_lines 105 = .ok (.istore 6, 2) := by decide +kernel
theorem dX12_lines_107 : decode cX12_lines 107 = .ok (.iload 6, 2) := by decide +kernel
theorem dX12_lines_109 : decode cX12_lines 109 = .ok (.ifCond .lt 28, 3) := by decide +kernel
theorem dX12_lines_112 : decode cX12_lines 112 = .ok (.aload_n 0, 1) := by decide +kernel
theorem dX12_lines_113 : decode cX12_lines 113 = .ok (.bipush 10, 2) := by decide +kernel
theorem dX12_lines_115 : decode cX12_lines 115 = .ok (.aload_n 0, 1) := by decide +kernel
theorem dX12_lines_116 : decode cX12_lines 116 = .ok (.getfield 249, 3) := by decide +kernel
theorem dX12_lines_119 : decode cX12_lines 119 = .ok (.imul, 1) := by decide +kernel
theorem dX12_lines_120 : decode cX12_lines 120 = .ok (.aload_n 0, 1) := by decide +kernel
theorem dX12_lines_121 : decode cX12_lines 121 = .ok (.getfield 55, 3) := by decide +kernel
theorem dX12_lines_124 : decode cX12_lines 124 = .ok (.iload 6, 2) := by decide +kernel
theorem dX12_lines_126 : decode cX12_lines 126 = .ok (.iaload, 1) := by decide +kernel
theorem dX12_lines_127 : decode cX12_lines 127 = .ok (.iadd, 1) := by decide +kernel
theorem dX12_lines_128 : decode cX12_lines 128 = .ok (.putfield 249, 3) := by decide +kernel
theorem dX12_lines_131 : decode cX12_lines 131 = .ok (.iinc 6 (-1), 3) := by decide +kernel
theorem dX12_lines_134 : decode cX12_lines 134 = .ok (.goto (-27), 3) := by decide +kernel
theorem dX12_lines_137 : decode cX12_lines 137 = .ok (.return_, 1) := by decide +kernel
theorem dX12_lines_138 : decode cX12_lines 138 = .ok (.iconst 0, 1) := by decide +kernel
theorem dX12_lines_139 : decode cX12_lines 139 = .ok (.istore 6, 2) := by decide +kernel
theorem dX12_lines_141 : decode cX12_lines 141 = .ok (.iload 6, 2) := by decide +kernel
theorem dX12_lines_143 : decode cX12_lines 143 = .ok (.iload 5, 2) := by decide +kernel
theorem dX12_lines_145 : decode cX12_lines 145 = .ok (.if_icmp .ge 46, 3) := by decide +kernel
theorem dX12_lines_148 : decode cX12_lines 148 = .ok (.iload_n 3, 1) := by decide +kernel
theorem dX12_lines_149 : decode cX12_lines 149 = .ok (.iload 6, 2) := by decide +kernel
theorem dX12_lines_151 : decode cX12_lines 151 = .ok (.ishr, 1) := by decide +kernel
theorem dX12_lines_152 : decode cX12_lines 152 = .ok (.iconst 1, 1) := by decide +kernel
theorem dX12_lines_153 : decode cX12_lines 153 = .ok (.iand, 1) := by decide +kernel
theorem dX12_lines_154 : decode cX12_lines 154 = .ok (.iconst 1, 1) := by decide +kernel
theorem dX12_lines_155 : decode cX12_lines 155 = .ok (.if_icmp .ne 6, 3) := by decide +kernel
theorem dX12_lines_158 : decode cX12_lines 158 = .ok (.goto 27, 3) := by decide +kernel
theorem dX12_lines_161 : decode cX12_lines 161 = .ok (.aload_n 0, 1) := by decide +kernel
theorem dX12_lines_162 : decode cX12_lines 162 = .ok (.getfield 55, 3) := by decide +kernel
theorem dX12_lines_165 : decode cX12_lines 165 = .ok (.iload_n 2, 1) := by decide +kernel
theorem dX12_lines_166 : decode cX12_lines 166 = .ok (.iload 6, 2) := by decide +kernel
theorem dX12_lines_168 : decode cX12_lines 168 = .ok (.iastore, 1) := by decide +kernel
theorem dX12_lines_169 : decode cX12_lines 169 = .ok (.aload_n 0, 1) := by decide +kernel
theorem dX12_lines_170 : decode cX12_lines 170 = .ok (.iload_n 1, 1) := by decide +kernel
theorem dX12_lines_171 : decode cX12_lines 171 = .ok (.iload_n 2, 1) := by decide +kernel
theorem dX12_lines_172 : decode cX12_lines 172 = .ok (.iconst 1, 1) := by decide +kernel
theorem dX12_lines_173 : decode cX12_lines 173 = .ok (.iadd, 1) := by decide +kernel
theorem dX12_lines_174 : decode cX12_lines 174 = .ok (.iload_n 3, 1) := by decide +kernel
theorem dX12_lines_175 : decode cX12_lines 175 = .ok (.iconst 1, 1) := by decide +kernel
theorem dX12_lines_176 : decode cX12_lines 176 = .ok (.iload 6, 2) := by decide +kernel
theorem dX12_lines_178 : decode cX12_lines 178 = .ok (.ishl, 1) := by decide +kernel
theorem dX12_lines_179 : decode cX12_lines 179 = .ok (.ior, 1) := by decide +kernel
theorem dX12_lines_180 : decode cX12_lines 180 = .ok (.iload 4, 2) := by decide +kernel
theorem dX12_lines_182 : decode cX12_lines 182 = .ok (.invokevirtual 252, 3) := by decide +kernel
theorem dX12_lines_185 : decode cX12_lines 185 = .ok (.iinc 6 1, 3) := by decide +kernel
theorem dX12_lines_188 : decode cX12_lines 188 = .ok (.goto (-47), 3) := by decide +kernel
theorem dX12_lines_191 : decode cX12_lines 191 = .ok (.return_, 1) := by decide +kernel
theorem dX12_free_0 : decode cX12_free 0 = .ok (.iload_n 1, 1) := by decide +kernel
theorem dX12_free_1 : decode cX12_free 1 = .ok (.invokestatic 123, 3) := by decide +kernel
theorem dX12_free_4 : decode cX12_free 4 = .ok (.ifCond .eq 25, 3) := by decide +kernel
theorem dX12_free_7 : decode cX12_free 7 = .ok (.iload_n 2, 1) := by decide +kernel
theorem dX12_free_8 : decode cX12_free 8 = .ok (.i2l, 1) := by decide +kernel
theorem dX12_free_9 : decode cX12_free 9 = .ok (.lconst 0, 1) := by decide +kernel
theorem dX12_free_10 : decode cX12_free 10 = .ok (.ldc2_w 241, 3) := by decide +kernel
theorem dX12_free_13 : decode cX12_free 13 = .ok (.invokestatic 65, 3) := by decide +kernel
theorem dX12_free_16 : decode cX12_free 16 = .ok (.ifCond .eq 13, 3) := by decide +kernel
theorem dX12_free_19 : decode cX12_free 19 = .ok (.iload_n 3, 1) := by decide +kernel
theorem dX12_free_20 : decode cX12_free 20 = .ok (.i2l, 1) := by decide +kernel
theorem dX12_free_21 : decode cX12_free 21 = .ok (.lconst 0, 1) := by decide +kernel
theorem dX12_free_22 : decode cX12_free 22 = .ok (.lconst 1, 1) := by decide +kernel
theorem dX12_free_23 : decode cX12_free 23 = .ok (.invokestatic 65, 3) := by decide +kernel
theorem dX12_free_26 : decode cX12_free 26 = .ok (.ifCond .ne 5, 3) := by decide +kernel
theorem dX12_free_29 : decode cX12_free 29 = .ok (.iconst (-1), 1) := by decide +kernel
theorem dX12_free_30 : decode cX12_free 30 = .ok (.ireturn, 1) := by decide +kernel
theorem dX12_free_31 : decode cX12_free 31 = .ok (.aload_n 0, 1) := by decide +kernel
theorem dX12_free_32 : decode cX12_free 32 = .ok (.iload_n 1, 1) := by decide +kernel
theorem dX12_free_33 : decode cX12_free 33 = .ok (.invokevirtual 217, 3) := by decide +kernel
theorem dX12_free_36 : decode cX12_free 36 = .ok (.istore 4, 2) := by decide +kernel
theorem dX12_free_38 : decode cX12_free 38 = .ok (.iload 4, 2) := by decide +kernel
theorem dX12_free_40 : decode cX12_free 40 = .ok (.ifCond .ne 17, 3) := by decide +kernel
theorem dX12_free_43 : decode cX12_free 43 = .ok (.aload_n 0, 1) := by decide +kernel
theorem dX12_free_44 : decode cX12_free 44 = .ok (.getfield 25, 3) := by decide +kernel
theorem dX12_free_47 : decode cX12_free 47 = .ok (.iload_n 1, 1) := by decide +kernel
theorem dX12_free_48 : decode cX12_free 48 = .ok (.iaload, 1) := by decide +kernel
theorem dX12_free_49 : decode cX12_free 49 = .ok (.iconst 5, 1) := by decide +kernel
theorem dX12_free_50 : decode cX12_free 50 = .ok (.if_icmp .le 7, 3) := by decide +kernel
theorem dX12_free_53 : decode cX12_free 53 = .ok (.bipush (-13), 2) := by decide +kernel
theorem dX12_free_55 : decode cX12_free 55 = .ok (.istore 4, 2) := by decide +kernel
theorem dX12_free_57 : decode cX12_free 57 = .ok (.iload 4, 2) := by decide +kernel
theorem dX12_free_59 : decode cX12_free 59 = .ok (.ifCond .eq 6, 3) := by decide +kernel
theorem dX12_free_62 : decode cX12_free 62 = .ok (.iload 4, 2) := by decide +kernel
theorem dX12_free_64 : decode cX12_free 64 = .ok (.ireturn, 1) := by decide +kernel
theorem dX12_free_65 : decode cX12_free 65 = .ok (.aload_n 0, 1) := by decide +kernel
theorem dX12_free_66 : decode cX12_free 66 = .ok (.iload_n 1, 1) := by decide +kernel
theorem dX12_free_67 : decode cX12_free 67 = .ok (.iconst 0, 1) := by decide +kernel
theorem dX12_free_68 : decode cX12_free 68 = .ok (.invokevirtual 220, 3) := by decide +kernel
theorem dX12_free_71 : decode cX12_free 71 = .ok (.aload_n 0, 1) := by decide +kernel
theorem dX12_free_72 : decode cX12_free 72 = .ok (.bipush (-4), 2) := by decide +kernel
theorem dX12_free_74 : decode cX12_free 74 = .ok (.putfield 246, 3) := by decide +kernel
theorem dX12_free_77 : decode cX12_free 77 = .ok (.aload_n 0, 1) := by decide +kernel
theorem dX12_free_78 : decode cX12_free 78 = .ok (.iload_n 1, 1) := by decide +kernel
theorem dX12_free_79 : decode cX12_free 79 = .ok (.iconst 0, 1) := by decide +kernel
theorem dX12_free_80 : decode cX12_free 80 = .ok (.iconst 0, 1) := by decide +kernel
theorem dX12_free_81 : decode cX12_free 81 = .ok (.iload_n 2, 1) := by decide +kernel
theorem dX12_free_82 : decode cX12_free 82 = .ok (.invokevirtual 252, 3) := by decide +kernel
theorem dX12_free_85 : decode cX12_free 85 = .ok (.aload_n 0, 1) := by decide +kernel
theorem dX12_free_86 : decode cX12_free 86 = .ok (.getfield 246, 3) := by decide +kernel
theorem dX12_free_89 : decode cX12_free 89 = .ok (.ifCond .ge 8, 3) := by decide +kernel
theorem dX12_free_92 : decode cX12_free 92 = .ok (.bipush (-4), 2) := by decide +kernel
theorem dX12_free_94 : decode cX12_free 94 = .ok (.goto 18, 3) := by decide +kernel
theorem dX12_free_97 : decode cX12_free 97 = .ok (.iload_n 3, 1) := by decide +kernel
theorem dX12_free_98 : decode cX12_free 98 = .ok (.ifCond .ne 10, 3) := by decide +kernel
theorem dX12_free_101 : decode cX12_free 101 = .ok (.aload_n 0, 1) := by decide +kernel
theorem dX12_free_102 : decode cX12_free 102 = .ok (.getfield 249, 3) := by decide +kernel
theorem dX12_free_105 : decode cX12_free 105 = .ok (.goto 7, 3) := by decide +kernel
theorem dX12_free_108 : decode cX12_free 108 = .ok (.aload_n 0, 1) := by decide +kernel
theorem dX12_free_109 : decode cX12_free 109 = .ok (.getfield 246, 3) := by decide +kernel
theorem dX12_free_112 : decode cX12_free 112 = .ok (.ireturn, 1) := by decide +kernel
theorem dX12_worthOf_0 : decode cX12_worthOf 0 = .ok (.lconst 0, 1) := by decide +kernel
theorem dX12_worthOf_1 : decode cX12_worthOf 1 = .ok (.lstore_n 2, 1) := by decide +kernel
theorem dX12_worthOf_2 : decode cX12_worthOf 2 = .ok (.iconst 0, 1) := by decide +kernel
theorem dX12_worthOf_3 : decode cX12_worthOf 3 = .ok (.istore 4, 2) := by decide +kernel
theorem dX12_worthOf_5 : decode cX12_worthOf 5 = .ok (.iload 4, 2) := by decide +kernel
theorem dX12_worthOf_7 : decode cX12_worthOf 7 = .ok (.bipush 10, 2) := by decide +kernel
theorem dX12_worthOf_9 : decode cX12_worthOf 9 = .ok (.if_icmp .ge 42, 3) := by decide +kernel
theorem dX12_worthOf_12 : decode cX12_worthOf 12 = .ok (.lload_n 2, 1) := by decide +kernel
theorem dX12_worthOf_13 : decode cX12_worthOf 13 = .ok (.iload_n 1, 1) := by decide +kernel
theorem dX12_worthOf_14 : decode cX12_worthOf 14 = .ok (.iload 4, 2) := by decide +kernel
theorem dX12_worthOf_16 : decode cX12_worthOf 16 = .ok (.ishr, 1) := by decide +kernel
theorem dX12_worthOf_17 : decode cX12_worthOf 17 = .ok (.iconst 1, 1) := by decide +kernel
theorem dX12_worthOf_18 : decode cX12_worthOf 18 = .ok (.iand, 1) := by decide +kernel
theorem dX12_worthOf_19 : decode cX12_worthOf 19 = .ok (.iconst 1, 1) := by decide +kernel
theorem dX12_worthOf_20 : decode cX12_worthOf 20 = .ok (.if_icmp .ne 22, 3) := by decide +kernel
theorem dX12_worthOf_23 : decode cX12_worthOf 23 = .ok (.aload_n 0, 1) := by decide +kernel
theorem dX12_worthOf_24 : decode cX12_worthOf 24 = .ok (.getfield 28, 3) := by decide +kernel
theorem dX12_worthOf_27 : decode cX12_worthOf 27 = .ok (.bipush 100, 2) := by decide +kernel
theorem dX12_worthOf_29 : decode cX12_worthOf 29 = .ok (.aload_n 0, 1) := by decide +kernel
theorem dX12_worthOf_30 : decode cX12_worthOf 30 = .ok (.getfield 256, 3) := by decide +kernel
theorem dX12_worthOf_33 : decode cX12_worthOf 33 = .ok (.imul, 1) := by decide +kernel
theorem dX12_worthOf_34 : decode cX12_worthOf 34 = .ok (.iload 4, 2) := by decide +kernel
theorem dX12_worthOf_36 : decode cX12_worthOf 36 = .ok (.iadd, 1) := by decide +kernel
theorem dX12_worthOf_37 : decode cX12_worthOf 37 = .ok (.iaload, 1) := by decide +kernel
theorem dX12_worthOf_38 : decode cX12_worthOf 38 = .ok (.i2l, 1) := by decide +kernel
theorem dX12_worthOf_39 : decode cX12_worthOf 39 = .ok (.goto 4, 3) := by decide +kernel
theorem dX12_worthOf_42 : decode cX12_worthOf 42 = .ok (.lconst 0, 1) := by decide +kernel
theorem dX12_worthOf_43 : decode cX12_worthOf 43 = .ok (.ladd, 1) := by decide +kernel
theorem dX12_worthOf_44 : decode cX12_worthOf 44 = .ok (.lstore_n 2, 1) := by decide +kernel
theorem dX12_worthOf_45 : decode cX12_worthOf 45 = .ok (.iinc 4 1, 3) := by decide +kernel
theorem dX12_worthOf_48 : decode cX12_worthOf 48 = .ok (.goto (-43), 3) := by decide +kernel
theorem dX12_worthOf_51 : decode cX12_worthOf 51 = .ok (.lload_n 2, 1) := by decide +kernel
theorem dX12_worthOf_52 : decode cX12_worthOf 52 = .ok (.lreturn, 1) := by decide +kernel
theorem dX12_tries_0 : decode cX12_tries 0 = .ok (.iconst 0, 1) := by decide +kernel
theorem dX12_tries_1 : decode cX12_tries 1 = .ok (.istore 8, 2) := by decide +kernel
theorem dX12_tries_3 : decode cX12_tries 3 = .ok (.iload 8, 2) := by decide +kernel
theorem dX12_tries_5 : decode cX12_tries 5 = .ok (.iconst 1, 1) := by decide +kernel
theorem dX12_tries_6 : decode cX12_tries 6 = .ok (.iload_n 3, 1) := by decide +kernel
theorem dX12_tries_7 : decode cX12_tries 7 = .ok (.ishl, 1) := by decide +kernel
theorem dX12_tries_8 : decode cX12_tries 8 = .ok (.if_icmp .ge 167, 3) := by decide +kernel
theorem dX12_tries_11 : decode cX12_tries 11 = .ok (.aload_n 0, 1) := by decide +kernel
theorem dX12_tries_12 : decode cX12_tries 12 = .ok (.iload_n 3, 1) := by decide +kernel
theorem dX12_tries_13 : decode cX12_tries 13 = .ok (.putfield 166, 3) := by decide +kernel
theorem dX12_tries_16 : decode cX12_tries 16 = .ok (.aload_n 0, 1) := by decide +kernel
theorem dX12_tries_17 : decode cX12_tries 17 = .ok (.getfield 40, 3) := by decide +kernel
theorem dX12_tries_20 : decode cX12_tries 20 = .ok (.iconst 0, 1) := by decide +kernel
theorem dX12_tries_21 : decode cX12_tries 21 = .ok (.iload 4, 2) := by decide +kernel
theorem dX12_tries_23 : decode cX12_tries 23 = .ok (.iastore, 1) := by decide +kernel
theorem dX12_tries_24 : decode cX12_tries 24 = .ok (.aload_n 0, 1) := by decide +kernel
theorem dX12_tries_25 : decode cX12_tries 25 = .ok (.getfield 40, 3) := by decide +kernel
theorem dX12_tries_28 : decode cX12_tries 28 = .ok (.iconst 1, 1) := by decide +kernel
theorem dX12_tries_29 : decode cX12_tries 29 = .ok (.iload 5, 2) := by decide +kernel
theorem dX12_tries_31 : decode cX12_tries 31 = .ok (.iastore, 1) := by decide +kernel
theorem dX12_tries_32 : decode cX12_tries 32 = .ok (.aload_n 0, 1) := by decide +kernel
theorem dX12_tries_33 : decode cX12_tries 33 = .ok (.iload 8, 2) := by decide +kernel
theorem dX12_tries_35 : decode cX12_tries 35 = .ok (.putfield 169, 3) := by decide +kernel
theorem dX12_tries_38 : decode cX12_tries 38 = .ok (.aload_n 0, 1) := by decide +kernel
theorem dX12_tries_39 : decode cX12_tries 39 = .ok (.iload 6, 2) := by decide +kernel
theorem dX12_tries_41 : decode cX12_tries 41 = .ok (.putfield 175, 3) := by decide +kernel
theorem dX12_tries_44 : decode cX12_tries 44 = .ok (.aload_n 0, 1) := by decide +kernel
theorem dX12_tries_45 : decode cX12_tries 45 = .ok (.iload 7, 2) := by decide +kernel
theorem dX12_tries_47 : decode cX12_tries 47 = .ok (.putfield 178, 3) := by decide +kernel
theorem dX12_tries_50 : decode cX12_tries 50 = .ok (.aload_n 0, 1) := by decide +kernel
theorem dX12_tries_51 : decode cX12_tries 51 = .ok (.invokevirtual 223, 3) := by decide +kernel
theorem dX12_tries_54 : decode cX12_tries 54 = .ok (.iload_n 2, 1) := by decide +kernel
theorem dX12_tries_55 : decode cX12_tries 55 = .ok (.ifCond .lt 7, 3) := by decide +kernel
theorem dX12_tries_58 : decode cX12_tries 58 = .ok (.iload_n 2, 1) := by decide +kernel
theorem dX12_tries_59 : decode cX12_tries 59 = .ok (.goto 36, 3) := by decide +kernel
theorem dX12_tries_62 : decode cX12_tries 62 = .ok (.bipush 100, 2) := by decide +kernel
theorem dX12_tries_64 : decode cX12_tries 64 = .ok (.iload 8, 2) := by decide +kernel
theorem dX12_tries_66 : decode cX12_tries 66 = .ok (.imul, 1) := by decide +kernel
theorem dX12_tries_67 : decode cX12_tries 67 = .ok (.bipush 10, 2) := by decide +kernel
theorem dX12_tries_69 : decode cX12_tries 69 = .ok (.iload_n 3, 1) := by decide +kernel
theorem dX12_tries_70 : decode cX12_tries 70 = .ok (.ifCond .le 8, 3) := by decide +kernel
theorem dX12_tries_73 : decode cX12_tries 73 = .ok (.iload 4, 2) := by decide +kernel
theorem dX12_tries_75 : decode cX12_tries 75 = .ok (.goto 5, 3) := by decide +kernel
theorem dX12_tries_78 : decode cX12_tries 78 = .ok (.bipush 9, 2) := by decide +kernel
theorem dX12_tries_80 : decode cX12_tries 80 = .ok (.imul, 1) := by decide +kernel
theorem dX12_tries_81 : decode cX12_tries 81 = .ok (.iadd, 1) := by decide +kernel
theorem dX12_tries_82 : decode cX12_tries 82 = .ok (.iload_n 3, 1) := by decide +kernel
theorem dX12_tries_83 : decode cX12_tries 83 = .ok (.iconst 1, 1) := by decide +kernel
theorem dX12_tries_84 : decode cX12_tries 84 = .ok (.if_icmp .le 8, 3) := by decide +kernel
theorem dX12_tries_87 : decode cX12_tries 87 = .ok (.iload 5, 2) := by decide +kernel
theorem dX12_tries_89 : decode cX12_tries 89 = .ok (.goto 5, 3) := by decide +kernel
theorem dX12_tries_92 : decode cX12_tries 92 = .ok (.bipush 9, 2) := by decide +kernel
theorem dX12_tries_94 : decode cX12_tries 94 = .ok (.iadd, 1) := by decide +kernel
theorem dX12_tries_95 : decode cX12_tries 95 = .ok (.istore 9, 2) := by decide +kernel
theorem dX12_tries_97 : decode cX12_tries 97 = .ok (.iload_n 1, 1) := by decide +kernel
theorem dX12_tries_98 : decode cX12_tries 98 = .ok (.iconst 1, 1) := by decide +kernel
theorem dX12_tries_99 : decode cX12_tries 99 = .ok (.if_icmp .le 23, 3) := by decide +kernel
theorem dX12_tries_102 : decode cX12_tries 102 = .ok (.aload_n 0, 1) := by decide +kernel
theorem dX12_tries_103 : decode cX12_tries 103 = .ok (.iload_n 1, 1) := by decide +kernel
theorem dX12_tries_104 : decode cX12_tries 104 = .ok (.iconst 1, 1) := by decide +kernel
theorem dX12_tries_105 : decode cX12_tries 105 = .ok (.isub, 1) := by decide +kernel
theorem dX12_tries_106 : decode cX12_tries 106 = .ok (.iload 9, 2) := by decide +kernel
theorem dX12_tries_108 : decode cX12_tries 108 = .ok (.aload_n 0, 1) := by decide +kernel
theorem dX12_tries_109 : decode cX12_tries 109 = .ok (.getfield 175, 3) := by decide +kernel
theorem dX12_tries_112 : decode cX12_tries 112 = .ok (.aload_n 0, 1) := by decide +kernel
theorem dX12_tries_113 : decode cX12_tries 113 = .ok (.getfield 178, 3) := by decide +kernel
theorem dX12_tries_116 : decode cX12_tries 116 = .ok (.invokevirtual 259, 3) := by decide +kernel
theorem dX12_tries_119 : decode cX12_tries 119 = .ok (.goto 50, 3) := by decide +kernel
theorem dX12_tries_122 : decode cX12_tries 122 = .ok (.aload_n 0, 1) := by decide +kernel
theorem dX12_tries_123 : decode cX12_tries 123 = .ok (.aload_n 0, 1) := by decide +kernel
theorem dX12_tries_124 : decode cX12_tries 124 = .ok (.getfield 175, 3) := by decide +kernel
theorem dX12_tries_127 : decode cX12_tries 127 = .ok (.invokevirtual 262, 3) := by decide +kernel
theorem dX12_tries_130 : decode cX12_tries 130 = .ok (.lstore 10, 2) := by decide +kernel
theorem dX12_tries_132 : decode cX12_tries 132 = .ok (.aload_n 0, 1) := by decide +kernel
theorem dX12_tries_133 : decode cX12_tries 133 = .ok (.getfield 266, 3) := by decide +kernel
theorem dX12_tries_136 : decode cX12_tries 136 = .ok (.ifCond .eq 16, 3) := by decide +kernel
theorem dX12_tries_139 : decode cX12_tries 139 = .ok (.lload 10, 2) := by decide +kernel
theorem dX12_tries_141 : decode cX12_tries 141 = .ok (.aload_n 0, 1) := by decide +kernel
theorem dX12_tries_142 : decode cX12_tries 142 = .ok (.getfield 270, 3) := by decide +kernel
theorem dX12_tries_145 : decode cX12_tries 145 = .ok (.lcmp, 1) := by decide +kernel
theorem dX12_tries_146 : decode cX12_tries 146 = .ok (.ifCond .gt 6, 3) := by decide +kernel
theorem dX12_tries_149 : decode cX12_tries 149 = .ok (.goto 20, 3) := by decide +kernel
theorem dX12_tries_152 : decode cX12_tries 152 = .ok (.aload_n 0, 1) := by decide +kernel
theorem dX12_tries_153 : decode cX12_tries 153 = .ok (.iconst 1, 1) := by decide +kernel
theorem dX12_tries_154 : decode cX12_tries 154 = .ok (.putfield 266, 3) := by decide +kernel
theorem dX12_tries_157 : decode cX12_tries 157 = .ok (.aload_n 0, 1) := by decide +kernel
theorem dX12_tries_158 : decode cX12_tries 158 = .ok (.lload 10, 2) := by decide +kernel
theorem dX12_tries_160 : decode cX12_tries 160 = .ok (.putfield 270, 3) := by decide +kernel
theorem dX12_tries_163 : decode cX12_tries 163 = .ok (.aload_n 0, 1) := by decide +kernel
theorem dX12_tries_164 : decode cX12_tries 164 = .ok (.iload 9, 2) := by decide +kernel
theorem dX12_tries_166 : decode cX12_tries 166 = .ok (.putfield 274, 3) := by decide +kernel
theorem dX12_tries_169 : decode cX12_tries 169 = .ok (.iinc 8 1, 3) := by decide +kernel
theorem dX12_tries_172 : decode cX12_tries 172 = .ok (.goto (-169), 3) := by decide +kernel
theorem dX12_tries_175 : decode cX12_tries 175 = .ok (.return_, 1) := by decide +kernel
theorem dX12_plans_0 : decode cX12_plans 0 = .ok (.aload_n 0, 1) := by decide +kernel
theorem dX12_plans_1 : decode cX12_plans 1 = .ok (.iload_n 1, 1) := by decide +kernel
theorem dX12_plans_2 : decode cX12_plans 2 = .ok (.iload_n 2, 1) := by decide +kernel
theorem dX12_plans_3 : decode cX12_plans 3 = .ok (.iconst 0, 1) := by decide +kernel
theorem dX12_plans_4 : decode cX12_plans 4 = .ok (.iconst 0, 1) := by decide +kernel
theorem dX12_plans_5 : decode cX12_plans 5 = .ok (.iconst 0, 1) := by decide +kernel
theorem dX12_plans_6 : decode cX12_plans 6 = .ok (.iload_n 3, 1) := by decide +kernel
theorem dX12_plans_7 : decode cX12_plans 7 = .ok (.iload 4, 2) := by decide +kernel
theorem dX12_plans_9 : decode cX12_plans 9 = .ok (.invokevirtual 277, 3) := by decide +kernel
theorem dX12_plans_12 : decode cX12_plans 12 = .ok (.iconst 0, 1) := by decide +kernel
theorem dX12_plans_13 : decode cX12_plans 13 = .ok (.istore 5, 2) := by decide +kernel
theorem dX12_plans_15 : decode cX12_plans 15 = .ok (.iload 5, 2) := by decide +kernel
theorem dX12_plans_17 : decode cX12_plans 17 = .ok (.aload_n 0, 1) := by decide +kernel
theorem dX12_plans_18 : decode cX12_plans 18 = .ok (.getfield 9, 3) := by decide +kernel
theorem dX12_plans_21 : decode cX12_plans 21 = .ok (.bipush 6, 2) := by decide +kernel
theorem dX12_plans_23 : decode cX12_plans 23 = .ok (.iaload, 1) := by decide +kernel
theorem dX12_plans_24 : decode cX12_plans 24 = .ok (.if_icmp .ge 22, 3) := by decide +kernel
theorem dX12_plans_27 : decode cX12_plans 27 = .ok (.aload_n 0, 1) := by decide +kernel
theorem dX12_plans_28 : decode cX12_plans 28 = .ok (.iload_n 1, 1) := by decide +kernel
theorem dX12_plans_29 : decode cX12_plans 29 = .ok (.iload_n 2, 1) := by decide +kernel
theorem dX12_plans_30 : decode cX12_plans 30 = .ok (.iconst 1, 1) := by decide +kernel
theorem dX12_plans_31 : decode cX12_plans 31 = .ok (.iload 5, 2) := by decide +kernel
theorem dX12_plans_33 : decode cX12_plans 33 = .ok (.iconst 0, 1) := by decide +kernel
theorem dX12_plans_34 : decode cX12_plans 34 = .ok (.iload_n 3, 1) := by decide +kernel
theorem dX12_plans_35 : decode cX12_plans 35 = .ok (.iload 4, 2) := by decide +kernel
theorem dX12_plans_37 : decode cX12_plans 37 = .ok (.invokevirtual 277, 3) := by decide +kernel
theorem dX12_plans_40 : decode cX12_plans 40 = .ok (.iinc 5 1, 3) := by decide +kernel
theorem dX12_plans_43 : decode cX12_plans 43 = .ok (.goto (-28), 3) := by decide +kernel
theorem dX12_plans_46 : decode cX12_plans 46 = .ok (.iconst 0, 1) := by decide +kernel
theorem dX12_plans_47 : decode cX12_plans 47 = .ok (.istore 5, 2) := by decide +kernel
theorem dX12_plans_49 : decode cX12_plans 49 = .ok (.iload 5, 2) := by decide +kernel
theorem dX12_plans_51 : decode cX12_plans 51 = .ok (.aload_n 0, 1) := by decide +kernel
theorem dX12_plans_52 : decode cX12_plans 52 = .ok (.getfield 9, 3) := by decide +kernel
theorem dX12_plans_55 : decode cX12_plans 55 = .ok (.bipush 6, 2) := by decide +kernel
theorem dX12_plans_57 : decode cX12_plans 57 = .ok (.iaload, 1) := by decide +kernel
theorem dX12_plans_58 : decode cX12_plans 58 = .ok (.if_icmp .ge 51, 3) := by decide +kernel
theorem dX12_plans_61 : decode cX12_plans 61 = .ok (.iconst 0, 1) := by decide +kernel
theorem dX12_plans_62 : decode cX12_plans 62 = .ok (.istore 6, 2) := by decide +kernel
theorem dX12_plans_64 : decode cX12_plans 64 = .ok (.iload 6, 2) := by decide +kernel
theorem dX12_plans_66 : decode cX12_plans 66 = .ok (.aload_n 0, 1) := by decide +kernel
theorem dX12_plans_67 : decode cX12_plans 67 = .ok (.getfield 9, 3) := by decide +kernel
theorem dX12_plans_70 : decode cX12_plans 70 = .ok (.bipush 6, 2) := by decide +kernel
theorem dX12_plans_72 : decode cX12_plans 72 = .ok (.iaload, 1) := by decide +kernel
theorem dX12_plans_73 : decode cX12_plans 73 = .ok (.if_icmp .ge 30, 3) := by decide +kernel
theorem dX12_plans_76 : decode cX12_plans 76 = .ok (.iload 5, 2) := by decide +kernel
theorem dX12_plans_78 : decode cX12_plans 78 = .ok (.iload 6, 2) := by decide +kernel
theorem dX12_plans_80 : decode cX12_plans 80 = .ok (.if_icmp .eq 17, 3) := by decide +kernel
theorem dX12_plans_83 : decode cX12_plans 83 = .ok (.aload_n 0, 1) := by decide +kernel
theorem dX12_plans_84 : decode cX12_plans 84 = .ok (.iload_n 1, 1) := by decide +kernel
theorem dX12_plans_85 : decode cX12_plans 85 = .ok (.iload_n 2, 1) := by decide +kernel
theorem dX12_plans_86 : decode cX12_plans 86 = .ok (.iconst 2, 1) := by decide +kernel
theorem dX12_plans_87 : decode cX12_plans 87 = .ok (.iload 5, 2) := by decide +kernel
theorem dX12_plans_89 : decode cX12_plans 89 = .ok (.iload 6, 2) := by decide +kernel
theorem dX12_plans_91 : decode cX12_plans 91 = .ok (.iload_n 3, 1) := by decide +kernel
theorem dX12_plans_92 : decode cX12_plans 92 = .ok (.iload 4, 2) := by decide +kernel
theorem dX12_plans_94 : decode cX12_plans 94 = .ok (.invokevirtual 277, 3) := by decide +kernel
theorem dX12_plans_97 : decode cX12_plans 97 = .ok (.iinc 6 1, 3) := by decide +kernel
theorem dX12_plans_100 : decode cX12_plans 100 = .ok (.goto (-36), 3) := by decide +kernel
theorem dX12_plans_103 : decode cX12_plans 103 = .ok (.iinc 5 1, 3) := by decide +kernel
theorem dX12_plans_106 : decode cX12_plans 106 = .ok (.goto (-57), 3) := by decide +kernel
theorem dX12_plans_109 : decode cX12_plans 109 = .ok (.return_, 1) := by decide +kernel
theorem dX12_plan_0 : decode cX12_plan 0 = .ok (.iload_n 1, 1) := by decide +kernel
theorem dX12_plan_1 : decode cX12_plan 1 = .ok (.i2l, 1) := by decide +kernel
theorem dX12_plan_2 : decode cX12_plan 2 = .ok (.lconst 1, 1) := by decide +kernel
theorem dX12_plan_3 : decode cX12_plan 3 = .ok (.ldc2_w 156, 3) := by decide +kernel
theorem dX12_plan_6 : decode cX12_plan 6 = .ok (.invokestatic 65, 3) := by decide +kernel
theorem dX12_plan_9 : decode cX12_plan 9 = .ok (.ifCond .eq 20, 3) := by decide +kernel
theorem dX12_plan_12 : decode cX12_plan 12 = .ok (.iload_n 2, 1) := by decide +kernel
theorem dX12_plan_13 : decode cX12_plan 13 = .ok (.invokestatic 123, 3) := by decide +kernel
theorem dX12_plan_16 : decode cX12_plan 16 = .ok (.ifCond .eq 13, 3) := by decide +kernel
theorem dX12_plan_19 : decode cX12_plan 19 = .ok (.iload_n 3, 1) := by decide +kernel
theorem dX12_plan_20 : decode cX12_plan 20 = .ok (.i2l, 1) := by decide +kernel
theorem dX12_plan_21 : decode cX12_plan 21 = .ok (.lconst 0, 1) := by decide +kernel
theorem dX12_plan_22 : decode cX12_plan 22 = .ok (.lconst 1, 1) := by decide +kernel
theorem dX12_plan_23 : decode cX12_plan 23 = .ok (.invokestatic 65, 3) := by decide +kernel
theorem dX12_plan_26 : decode cX12_plan 26 = .ok (.ifCond .ne 7, 3) := by decide +kernel
theorem dX12_plan_29 : decode cX12_plan 29 = .ok (.ldc_w 281, 3) := by decide +kernel
theorem dX12_plan_32 : decode cX12_plan 32 = .ok (.ireturn, 1) := by decide +kernel
theorem dX12_plan_33 : decode cX12_plan 33 = .ok (.aload_n 0, 1) := by decide +kernel
theorem dX12_plan_34 : decode cX12_plan 34 = .ok (.iload_n 2, 1) := by decide +kernel
theorem dX12_plan_35 : decode cX12_plan 35 = .ok (.iconst (-1), 1) := by decide +kernel
theorem dX12_plan_36 : decode cX12_plan 36 = .ok (.invokevirtual 126, 3) := by decide +kernel
theorem dX12_plan_39 : decode cX12_plan 39 = .ok (.istore 4, 2) := by decide +kernel
theorem dX12_plan_41 : decode cX12_plan 41 = .ok (.iload 4, 2) := by decide +kernel
theorem dX12_plan_43 : decode cX12_plan 43 = .ok (.ifCond .eq 10, 3) := by decide +kernel
theorem dX12_plan_46 : decode cX12_plan 46 = .ok (.ldc_w 282, 3) := by decide +kernel
theorem dX12_plan_49 : decode cX12_plan 49 = .ok (.iload 4, 2) := by decide +kernel
theorem dX12_plan_51 : decode cX12_plan 51 = .ok (.iadd, 1) := by decide +kernel
theorem dX12_plan_52 : decode cX12_plan 52 = .ok (.ireturn, 1) := by decide +kernel
theorem dX12_plan_53 : decode cX12_plan 53 = .ok (.aload_n 0, 1) := by decide +kernel
theorem dX12_plan_54 : decode cX12_plan 54 = .ok (.getfield 25, 3) := by decide +kernel
theorem dX12_plan_57 : decode cX12_plan 57 = .ok (.iload_n 2, 1) := by decide +kernel
theorem dX12_plan_58 : decode cX12_plan 58 = .ok (.iaload, 1) := by decide +kernel
theorem dX12_plan_59 : decode cX12_plan 59 = .ok (.bipush 10, 2) := by decide +kernel
theorem dX12_plan_61 : decode cX12_plan 61 = .ok (.if_icmp .eq 7, 3) := by decide +kernel
theorem dX12_plan_64 : decode cX12_plan 64 = .ok (.ldc_w 283, 3) := by decide +kernel
theorem dX12_plan_67 : decode cX12_plan 67 = .ok (.ireturn, 1) := by decide +kernel
theorem dX12_plan_68 : decode cX12_plan 68 = .ok (.iconst 0, 1) := by decide +kernel
theorem dX12_plan_69 : decode cX12_plan 69 = .ok (.istore 5, 2) := by decide +kernel
theorem dX12_plan_71 : decode cX12_plan 71 = .ok (.iload 5, 2) := by decide +kernel
theorem dX12_plan_73 : decode cX12_plan 73 = .ok (.bipush 10, 2) := by decide +kernel
theorem dX12_plan_75 : decode cX12_plan 75 = .ok (.if_icmp .ge 38, 3) := by decide +kernel
theorem dX12_plan_78 : decode cX12_plan 78 = .ok (.aload_n 0, 1) := by decide +kernel
theorem dX12_plan_79 : decode cX12_plan 79 = .ok (.getfield 28, 3) := by decide +kernel
theorem dX12_plan_82 : decode cX12_plan 82 = .ok (.bipush 100, 2) := by decide +kernel
theorem dX12_plan_84 : decode cX12_plan 84 = .ok (.iload_n 2, 1) := by decide +kernel
theorem dX12_plan_85 : decode cX12_plan 85 = .ok (.imul, 1) := by decide +kernel
theorem dX12_plan_86 : decode cX12_plan 86 = .ok (.iload 5, 2) := by decide +kernel
theorem dX12_plan_88 : decode cX12_plan 88 = .ok (.iadd, 1) := by decide +kernel
theorem dX12_plan_89 : decode cX12_plan 89 = .ok (.iaload, 1) := by decide +kernel
theorem dX12_plan_90 : decode cX12_plan 90 = .ok (.i2l, 1) := by decide +kernel
theorem dX12_plan_91 : decode cX12_plan 91 = .ok (.ldc2_w 284, 3) := by decide +kernel
theorem dX12_plan_94 : decode cX12_plan 94 = .ok (.ldc2_w 286, 3) := by decide +kernel
theorem dX12_plan_97 : decode cX12_plan 97 = .ok (.invokestatic 65, 3) := by decide +kernel
theorem dX12_plan_100 : decode cX12_plan 100 = .ok (.ifCond .ne 7, 3) := by decide +kernel
theorem dX12_plan_103 : decode cX12_plan 103 = .ok (.ldc_w 283, 3) := by decide +kernel
theorem dX12_plan_106 : decode cX12_plan 106 = .ok (.ireturn, 1) := by decide +kernel
theorem dX12_plan_107 : decode cX12_plan 107 = .ok (.iinc 5 1, 3) := by decide +kernel
theorem dX12_plan_110 : decode cX12_plan 110 = .ok (.goto (-39), 3) := by decide +kernel
theorem dX12_plan_113 : decode cX12_plan 113 = .ok (.aload_n 0, 1) := by decide +kernel
theorem dX12_plan_114 : decode cX12_plan 114 = .ok (.iload_n 2, 1) := by decide +kernel
theorem dX12_plan_115 : decode cX12_plan 115 = .ok (.putfield 256, 3) := by decide +kernel
theorem dX12_plan_118 : decode cX12_plan 118 = .ok (.aload_n 0, 1) := by decide +kernel
theorem dX12_plan_119 : decode cX12_plan 119 = .ok (.iconst 0, 1) := by decide +kernel
theorem dX12_plan_120 : decode cX12_plan 120 = .ok (.putfield 266, 3) := by decide +kernel
theorem dX12_plan_123 : decode cX12_plan 123 = .ok (.aload_n 0, 1) := by decide +kernel
theorem dX12_plan_124 : decode cX12_plan 124 = .ok (.iload_n 1, 1) := by decide +kernel
theorem dX12_plan_125 : decode cX12_plan 125 = .ok (.bipush (-4), 2) := by decide +kernel
theorem dX12_plan_127 : decode cX12_plan 127 = .ok (.aload_n 0, 1) := by decide +kernel
theorem dX12_plan_128 : decode cX12_plan 128 = .ok (.getfield 9, 3) := by decide +kernel
theorem dX12_plan_131 : decode cX12_plan 131 = .ok (.iconst 0, 1) := by decide +kernel
theorem dX12_plan_132 : decode cX12_plan 132 = .ok (.iaload, 1) := by decide +kernel
theorem dX12_plan_133 : decode cX12_plan 133 = .ok (.aload_n 0, 1) := by decide +kernel
theorem dX12_plan_134 : decode cX12_plan 134 = .ok (.getfield 9, 3) := by decide +kernel
theorem dX12_plan_137 : decode cX12_plan 137 = .ok (.iconst 1, 1) := by decide +kernel
theorem dX12_plan_138 : decode cX12_plan 138 = .ok (.iaload, 1) := by decide +kernel
theorem dX12_plan_139 : decode cX12_plan 139 = .ok (.invokevirtual 259, 3) := by decide +kernel
theorem dX12_plan_142 : decode cX12_plan 142 = .ok (.iload_n 3, 1) := by decide +kernel
theorem dX12_plan_143 : decode cX12_plan 143 = .ok (.ifCond .ne 11, 3) := by decide +kernel
theorem dX12_plan_146 : decode cX12_plan 146 = .ok (.aload_n 0, 1) := by decide +kernel
theorem dX12_plan_147 : decode cX12_plan 147 = .ok (.getfield 270, 3) := by decide +kernel
theorem dX12_plan_150 : decode cX12_plan 150 = .ok (.l2i, 1) := by decide +kernel
theorem dX12_plan_151 : decode cX12_plan 151 = .ok (.goto 7, 3) := by decide +kernel
theorem dX12_plan_154 : decode cX12_plan 154 = .ok (.aload_n 0, 1) := by decide +kernel
theorem dX12_plan_155 : decode cX12_plan 155 = .ok (.getfield 274, 3) := by decide +kernel
theorem dX12_plan_158 : decode cX12_plan 158 = .ok (.ireturn, 1) := by decide +kernel
theorem dX12_ever_0 : decode cX12_ever 0 = .ok (.aload_n 0, 1) := by decide +kernel
theorem dX12_ever_1 : decode cX12_ever 1 = .ok (.getfield 9, 3) := by decide +kernel
theorem dX12_ever_4 : decode cX12_ever 4 = .ok (.iconst 0, 1) := by decide +kernel
theorem dX12_ever_5 : decode cX12_ever 5 = .ok (.iaload, 1) := by decide +kernel
theorem dX12_ever_6 : decode cX12_ever 6 = .ok (.istore_n 1, 1) := by decide +kernel
theorem dX12_ever_7 : decode cX12_ever 7 = .ok (.iconst 1, 1) := by decide +kernel
theorem dX12_ever_8 : decode cX12_ever 8 = .ok (.istore_n 2, 1) := by decide +kernel
theorem dX12_ever_9 : decode cX12_ever 9 = .ok (.iload_n 2, 1) := by decide +kernel
theorem dX12_ever_10 : decode cX12_ever 10 = .ok (.ifCond .eq 74, 3) := by decide +kernel
theorem dX12_ever_13 : decode cX12_ever 13 = .ok (.iload_n 1, 1) := by decide +kernel
theorem dX12_ever_14 : decode cX12_ever 14 = .ok (.istore_n 3, 1) := by decide +kernel
theorem dX12_ever_15 : decode cX12_ever 15 = .ok (.iconst 0, 1) := by decide +kernel
theorem dX12_ever_16 : decode cX12_ever 16 = .ok (.istore 4, 2) := by decide +kernel
theorem dX12_ever_18 : decode cX12_ever 18 = .ok (.iload 4, 2) := by decide +kernel
theorem dX12_ever_20 : decode cX12_ever 20 = .ok (.aload_n 0, 1) := by decide +kernel
theorem dX12_ever_21 : decode cX12_ever 21 = .ok (.getfield 9, 3) := by decide +kernel
theorem dX12_ever_24 : decode cX12_ever 24 = .ok (.bipush 6, 2) := by decide +kernel
theorem dX12_ever_26 : decode cX12_ever 26 = .ok (.iaload, 1) := by decide +kernel
theorem dX12_ever_27 : decode cX12_ever 27 = .ok (.if_icmp .ge 43, 3) := by decide +kernel
theorem dX12_ever_30 : decode cX12_ever 30 = .ok (.aload_n 0, 1) := by decide +kernel
theorem dX12_ever_31 : decode cX12_ever 31 = .ok (.iload 4, 2) := by decide +kernel
theorem dX12_ever_33 : decode cX12_ever 33 = .ok (.iconst 0, 1) := by decide +kernel
theorem dX12_ever_34 : decode cX12_ever 34 = .ok (.invokevirtual 136, 3) := by decide +kernel
theorem dX12_ever_37 : decode cX12_ever 37 = .ok (.bipush 6, 2) := by decide +kernel
theorem dX12_ever_39 : decode cX12_ever 39 = .ok (.if_icmp .eq 25, 3) := by decide +kernel
theorem dX12_ever_42 : decode cX12_ever 42 = .ok (.aload_n 0, 1) := by decide +kernel
theorem dX12_ever_43 : decode cX12_ever 43 = .ok (.iload 4, 2) := by decide +kernel
theorem dX12_ever_45 : decode cX12_ever 45 = .ok (.iconst 1, 1) := by decide +kernel
theorem dX12_ever_46 : decode cX12_ever 46 = .ok (.invokevirtual 136, 3) := by decide +kernel
theorem dX12_ever_49 : decode cX12_ever 49 = .ok (.iload_n 1, 1) := by decide +kernel
theorem dX12_ever_50 : decode cX12_ever 50 = .ok (.iconst (-1), 1) := by decide +kernel
theorem dX12_ever_51 : decode cX12_ever 51 = .ok (.ixor, 1) := by decide +kernel
theorem dX12_ever_52 : decode cX12_ever 52 = .ok (.iand, 1) := by decide +kernel
theorem dX12_ever_53 : decode cX12_ever 53 = .ok (.ifCond .ne 11, 3) := by decide +kernel
theorem dX12_ever_56 : decode cX12_ever 56 = .ok (.aload_n 0, 1) := by decide +kernel
theorem dX12_ever_57 : decode cX12_ever 57 = .ok (.iload 4, 2) := by decide +kernel
theorem dX12_ever_59 : decode cX12_ever 59 = .ok (.iload_n 1, 1) := by decide +kernel
theorem dX12_ever_60 : decode cX12_ever 60 = .ok (.invokevirtual 187, 3) := by decide +kernel
theorem dX12_ever_63 : decode cX12_ever 63 = .ok (.istore_n 1, 1) := by decide +kernel
theorem dX12_ever_64 : decode cX12_ever 64 = .ok (.iinc 4 1, 3) := by decide +kernel
theorem dX12_ever_67 : decode cX12_ever 67 = .ok (.goto (-49), 3) := by decide +kernel
theorem dX12_ever_70 : decode cX12_ever 70 = .ok (.iload_n 1, 1) := by decide +kernel
theorem dX12_ever_71 : decode cX12_ever 71 = .ok (.iload_n 3, 1) := by decide +kernel
theorem dX12_ever_72 : decode cX12_ever 72 = .ok (.if_icmp .eq 7, 3) := by decide +kernel
theorem dX12_ever_75 : decode cX12_ever 75 = .ok (.iconst 1, 1) := by decide +kernel
theorem dX12_ever_76 : decode cX12_ever 76 = .ok (.goto 4, 3) := by decide +kernel
theorem dX12_ever_79 : decode cX12_ever 79 = .ok (.iconst 0, 1) := by decide +kernel
theorem dX12_ever_80 : decode cX12_ever 80 = .ok (.istore_n 2, 1) := by decide +kernel
theorem dX12_ever_81 : decode cX12_ever 81 = .ok (.goto (-72), 3) := by decide +kernel
theorem dX12_ever_84 : decode cX12_ever 84 = .ok (.iload_n 1, 1) := by decide +kernel
theorem dX12_ever_85 : decode cX12_ever 85 = .ok (.ireturn, 1) := by decide +kernel
theorem dX12_help_0 : decode cX12_help 0 = .ok (.iconst 0, 1) := by decide +kernel
theorem dX12_help_1 : decode cX12_help 1 = .ok (.istore_n 1, 1) := by decide +kernel
theorem dX12_help_2 : decode cX12_help 2 = .ok (.iconst 0, 1) := by decide +kernel
theorem dX12_help_3 : decode cX12_help 3 = .ok (.istore_n 2, 1) := by decide +kernel
theorem dX12_help_4 : decode cX12_help 4 = .ok (.iload_n 2, 1) := by decide +kernel
theorem dX12_help_5 : decode cX12_help 5 = .ok (.aload_n 0, 1) := by decide +kernel
theorem dX12_help_6 : decode cX12_help 6 = .ok (.getfield 9, 3) := by decide +kernel
theorem dX12_help_9 : decode cX12_help 9 = .ok (.bipush 6, 2) := by decide +kernel
theorem dX12_help_11 : decode cX12_help 11 = .ok (.iaload, 1) := by decide +kernel
theorem dX12_help_12 : decode cX12_help 12 = .ok (.if_icmp .ge 58, 3) := by decide +kernel
theorem dX12_help_15 : decode cX12_help 15 = .ok (.aload_n 0, 1) := by decide +kernel
theorem dX12_help_16 : decode cX12_help 16 = .ok (.iload_n 2, 1) := by decide +kernel
theorem dX12_help_17 : decode cX12_help 17 = .ok (.iconst 0, 1) := by decide +kernel
theorem dX12_help_18 : decode cX12_help 18 = .ok (.invokevirtual 136, 3) := by decide +kernel
theorem dX12_help_21 : decode cX12_help 21 = .ok (.bipush 6, 2) := by decide +kernel
theorem dX12_help_23 : decode cX12_help 23 = .ok (.if_icmp .ne 41, 3) := by decide +kernel
theorem dX12_help_26 : decode cX12_help 26 = .ok (.aload_n 0, 1) := by decide +kernel
theorem dX12_help_27 : decode cX12_help 27 = .ok (.iload_n 2, 1) := by decide +kernel
theorem dX12_help_28 : decode cX12_help 28 = .ok (.aload_n 0, 1) := by decide +kernel
theorem dX12_help_29 : decode cX12_help 29 = .ok (.getfield 9, 3) := by decide +kernel
theorem dX12_help_32 : decode cX12_help 32 = .ok (.iconst 0, 1) := by decide +kernel
theorem dX12_help_33 : decode cX12_help 33 = .ok (.iaload, 1) := by decide +kernel
theorem dX12_help_34 : decode cX12_help 34 = .ok (.aload_n 0, 1) := by decide +kernel
theorem dX12_help_35 : decode cX12_help 35 = .ok (.getfield 9, 3) := by decide +kernel
theorem dX12_help_38 : decode cX12_help 38 = .ok (.iconst 1, 1) := by decide +kernel
theorem dX12_help_39 : decode cX12_help 39 = .ok (.iaload, 1) := by decide +kernel
theorem dX12_help_40 : decode cX12_help 40 = .ok (.invokevirtual 162, 3) := by decide +kernel
theorem dX12_help_43 : decode cX12_help 43 = .ok (.ifCond .eq 21, 3) := by decide +kernel
theorem dX12_help_46 : decode cX12_help 46 = .ok (.iload_n 1, 1) := by decide +kernel
theorem dX12_help_47 : decode cX12_help 47 = .ok (.aload_n 0, 1) := by decide +kernel
theorem dX12_help_48 : decode cX12_help 48 = .ok (.getfield 9, 3) := by decide +kernel
theorem dX12_help_51 : decode cX12_help 51 = .ok (.iconst 0, 1) := by decide +kernel
theorem dX12_help_52 : decode cX12_help 52 = .ok (.iaload, 1) := by decide +kernel
theorem dX12_help_53 : decode cX12_help 53 = .ok (.iconst 1, 1) := by decide +kernel
theorem dX12_help_54 : decode cX12_help 54 = .ok (.aload_n 0, 1) := by decide +kernel
theorem dX12_help_55 : decode cX12_help 55 = .ok (.iload_n 2, 1) := by decide +kernel
theorem dX12_help_56 : decode cX12_help 56 = .ok (.iconst 2, 1) := by decide +kernel
theorem dX12_help_57 : decode cX12_help 57 = .ok (.invokevirtual 136, 3) := by decide +kernel
theorem dX12_help_60 : decode cX12_help 60 = .ok (.ishl, 1) := by decide +kernel
theorem dX12_help_61 : decode cX12_help 61 = .ok (.iand, 1) := by decide +kernel
theorem dX12_help_62 : decode cX12_help 62 = .ok (.ior, 1) := by decide +kernel
theorem dX12_help_63 : decode cX12_help 63 = .ok (.istore_n 1, 1) := by decide +kernel
theorem dX12_help_64 : decode cX12_help 64 = .ok (.iinc 2 1, 3) := by decide +kernel
theorem dX12_help_67 : decode cX12_help 67 = .ok (.goto (-63), 3) := by decide +kernel
theorem dX12_help_70 : decode cX12_help 70 = .ok (.iload_n 1, 1) := by decide +kernel
theorem dX12_help_71 : decode cX12_help 71 = .ok (.ireturn, 1) := by decide +kernel
theorem dX12_two_0 : decode cX12_two 0 = .ok (.iload_n 1, 1) := by decide +kernel
theorem dX12_two_1 : decode cX12_two 1 = .ok (.invokestatic 123, 3) := by decide +kernel
theorem dX12_two_4 : decode cX12_two 4 = .ok (.ifCond .eq 36, 3) := by decide +kernel
theorem dX12_two_7 : decode cX12_two 7 = .ok (.iload_n 2, 1) := by decide +kernel
theorem dX12_two_8 : decode cX12_two 8 = .ok (.invokestatic 123, 3) := by decide +kernel
theorem dX12_two_11 : decode cX12_two 11 = .ok (.ifCond .eq 29, 3) := by decide +kernel
theorem dX12_two_14 : decode cX12_two 14 = .ok (.iload_n 3, 1) := by decide +kernel
theorem dX12_two_15 : decode cX12_two 15 = .ok (.invokestatic 214, 3) := by decide +kernel
theorem dX12_two_18 : decode cX12_two 18 = .ok (.ifCond .eq 22, 3) := by decide +kernel
theorem dX12_two_21 : decode cX12_two 21 = .ok (.iload 4, 2) := by decide +kernel
theorem dX12_two_23 : decode cX12_two 23 = .ok (.invokestatic 214, 3) := by decide +kernel
theorem dX12_two_26 : decode cX12_two 26 = .ok (.ifCond .eq 14, 3) := by decide +kernel
theorem dX12_two_29 : decode cX12_two 29 = .ok (.iload 5, 2) := by decide +kernel
theorem dX12_two_31 : decode cX12_two 31 = .ok (.i2l, 1) := by decide +kernel
theorem dX12_two_32 : decode cX12_two 32 = .ok (.lconst 0, 1) := by decide +kernel
theorem dX12_two_33 : decode cX12_two 33 = .ok (.lconst 1, 1) := by decide +kernel
theorem dX12_two_34 : decode cX12_two 34 = .ok (.invokestatic 65, 3) := by decide +kernel
theorem dX12_two_37 : decode cX12_two 37 = .ok (.ifCond .ne 5, 3) := by decide +kernel
theorem dX12_two_40 : decode cX12_two 40 = .ok (.iconst (-1), 1) := by decide +kernel
theorem dX12_two_41 : decode cX12_two 41 = .ok (.ireturn, 1) := by decide +kernel
theorem dX12_two_42 : decode cX12_two 42 = .ok (.aload_n 0, 1) := by decide +kernel
theorem dX12_two_43 : decode cX12_two 43 = .ok (.iload_n 1, 1) := by decide +kernel
theorem dX12_two_44 : decode cX12_two 44 = .ok (.invokevirtual 217, 3) := by decide +kernel
theorem dX12_two_47 : decode cX12_two 47 = .ok (.istore 6, 2) := by decide +kernel
theorem dX12_two_49 : decode cX12_two 49 = .ok (.iload 6, 2) := by decide +kernel
theorem dX12_two_51 : decode cX12_two 51 = .ok (.ifCond .ne 10, 3) := by decide +kernel
theorem dX12_two_54 : decode cX12_two 54 = .ok (.aload_n 0, 1) := by decide +kernel
theorem dX12_two_55 : decode cX12_two 55 = .ok (.iload_n 2, 1) := by decide +kernel
theorem dX12_two_56 : decode cX12_two 56 = .ok (.invokevirtual 217, 3) := by decide +kernel
theorem dX12_two_59 : decode cX12_two 59 = .ok (.istore 6, 2) := by decide +kernel
theorem dX12_two_61 : decode cX12_two 61 = .ok (.iload 6, 2) := by decide +kernel
theorem dX12_two_63 : decode cX12_two 63 = .ok (.ifCond .eq 6, 3) := by decide +kernel
theorem dX12_two_66 : decode cX12_two 66 = .ok (.iload 6, 2) := by decide +kernel
theorem dX12_two_68 : decode cX12_two 68 = .ok (.ireturn, 1) := by decide +kernel
theorem dX12_two_69 : decode cX12_two 69 = .ok (.aload_n 0, 1) := by decide +kernel
theorem dX12_two_70 : decode cX12_two 70 = .ok (.iconst 0, 1) := by decide +kernel
theorem dX12_two_71 : decode cX12_two 71 = .ok (.putfield 166, 3) := by decide +kernel
theorem dX12_two_74 : decode cX12_two 74 = .ok (.aload_n 0, 1) := by decide +kernel
theorem dX12_two_75 : decode cX12_two 75 = .ok (.iconst 0, 1) := by decide +kernel
theorem dX12_two_76 : decode cX12_two 76 = .ok (.putfield 169, 3) := by decide +kernel
theorem dX12_two_79 : decode cX12_two 79 = .ok (.iconst 0, 1) := by decide +kernel
theorem dX12_two_80 : decode cX12_two 80 = .ok (.istore 7, 2) := by decide +kernel
theorem dX12_two_82 : decode cX12_two 82 = .ok (.iload 7, 2) := by decide +kernel
theorem dX12_two_84 : decode cX12_two 84 = .ok (.bipush 8, 2) := by decide +kernel
theorem dX12_two_86 : decode cX12_two 86 = .ok (.if_icmp .ge 124, 3) := by decide +kernel
theorem dX12_two_89 : decode cX12_two 89 = .ok (.iconst 0, 1) := by decide +kernel
theorem dX12_two_90 : decode cX12_two 90 = .ok (.istore 8, 2) := by decide +kernel
theorem dX12_two_92 : decode cX12_two 92 = .ok (.iload 8, 2) := by decide +kernel
theorem dX12_two_94 : decode cX12_two 94 = .ok (.iconst 2, 1) := by decide +kernel
theorem dX12_two_95 : decode cX12_two 95 = .ok (.if_icmp .ge 109, 3) := by decide +kernel
theorem dX12_two_98 : decode cX12_two 98 = .ok (.iload 8, 2) := by decide +kernel
theorem dX12_two_100 : decode cX12_two 100 = .ok (.ifCond .ne 7, 3) := by decide +kernel
theorem dX12_two_103 : decode cX12_two 103 = .ok (.iload_n 1, 1) := by decide +kernel
theorem dX12_two_104 : decode cX12_two 104 = .ok (.goto 4, 3) := by decide +kernel
theorem dX12_two_107 : decode cX12_two 107 = .ok (.iload_n 2, 1) := by decide +kernel
theorem dX12_two_108 : decode cX12_two 108 = .ok (.istore 9, 2) := by decide +kernel
theorem dX12_two_110 : decode cX12_two 110 = .ok (.iload 7, 2) := by decide +kernel
theorem dX12_two_112 : decode cX12_two 112 = .ok (.aload_n 0, 1) := by decide +kernel
theorem dX12_two_113 : decode cX12_two 113 = .ok (.getfield 25, 3) := by decide +kernel
theorem dX12_two_116 : decode cX12_two 116 = .ok (.iload 9, 2) := by decide +kernel
theorem dX12_two_118 : decode cX12_two 118 = .ok (.iaload, 1) := by decide +kernel
theorem dX12_two_119 : decode cX12_two 119 = .ok (.if_icmp .lt 6, 3) := by decide +kernel
theorem dX12_two_122 : decode cX12_two 122 = .ok (.goto 76, 3) := by decide +kernel
theorem dX12_two_125 : decode cX12_two 125 = .ok (.aload_n 0, 1) := by decide +kernel
theorem dX12_two_126 : decode cX12_two 126 = .ok (.getfield 40, 3) := by decide +kernel
theorem dX12_two_129 : decode cX12_two 129 = .ok (.aload_n 0, 1) := by decide +kernel
theorem dX12_two_130 : decode cX12_two 130 = .ok (.getfield 166, 3) := by decide +kernel
theorem dX12_two_133 : decode cX12_two 133 = .ok (.aload_n 0, 1) := by decide +kernel
theorem dX12_two_134 : decode cX12_two 134 = .ok (.getfield 28, 3) := by decide +kernel
theorem dX12_two_137 : decode cX12_two 137 = .ok (.bipush 100, 2) := by decide +kernel
theorem dX12_two_139 : decode cX12_two 139 = .ok (.iload 9, 2) := by decide +kernel
theorem dX12_two_141 : decode cX12_two 141 = .ok (.imul, 1) := by decide +kernel
theorem dX12_two_142 : decode cX12_two 142 = .ok (.iload 7, 2) := by decide +kernel
theorem dX12_two_144 : decode cX12_two 144 = .ok (.iadd, 1) := by decide +kernel
theorem dX12_two_145 : decode cX12_two 145 = .ok (.iaload, 1) := by decide +kernel
theorem dX12_two_146 : decode cX12_two 146 = .ok (.iastore, 1) := by decide +kernel
theorem dX12_two_147 : decode cX12_two 147 = .ok (.aload_n 0, 1) := by decide +kernel
theorem dX12_two_148 : decode cX12_two 148 = .ok (.getfield 58, 3) := by decide +kernel
theorem dX12_two_151 : decode cX12_two 151 = .ok (.aload_n 0, 1) := by decide +kernel
theorem dX12_two_152 : decode cX12_two 152 = .ok (.getfield 166, 3) := by decide +kernel
theorem dX12_two_155 : decode cX12_two 155 = .ok (.iload 8, 2) := by decide +kernel
theorem dX12_two_157 : decode cX12_two 157 = .ok (.iastore, 1) := by decide +kernel
theorem dX12_two_158 : decode cX12_two 158 = .ok (.aload_n 0, 1) := by decide +kernel
theorem dX12_two_159 : decode cX12_two 159 = .ok (.dup, 1) := by decide +kernel
theorem dX12_two_160 : decode cX12_two 160 = .ok (.getfield 169, 3) := by decide +kernel
theorem dX12_two_163 : decode cX12_two 163 = .ok (.iload 8, 2) := by decide +kernel
theorem dX12_two_165 : decode cX12_two 165 = .ok (.ifCond .ne 7, 3) := by decide +kernel
theorem dX12_two_168 : decode cX12_two 168 = .ok (.iload_n 3, 1) := by decide +kernel
theorem dX12_two_169 : decode cX12_two 169 = .ok (.goto 5, 3) := by decide +kernel
theorem dX12_two_172 : decode cX12_two 172 = .ok (.iload 4, 2) := by decide +kernel
theorem dX12_two_174 : decode cX12_two 174 = .ok (.iload 7, 2) := by decide +kernel
theorem dX12_two_176 : decode cX12_two 176 = .ok (.ishr, 1) := by decide +kernel
theorem dX12_two_177 : decode cX12_two 177 = .ok (.iconst 1, 1) := by decide +kernel
theorem dX12_two_178 : decode cX12_two 178 = .ok (.iand, 1) := by decide +kernel
theorem dX12_two_179 : decode cX12_two 179 = .ok (.aload_n 0, 1) := by decide +kernel
theorem dX12_two_180 : decode cX12_two 180 = .ok (.getfield 166, 3) := by decide +kernel
theorem dX12_two_183 : decode cX12_two 183 = .ok (.ishl, 1) := by decide +kernel
theorem dX12_two_184 : decode cX12_two 184 = .ok (.ior, 1) := by decide +kernel
theorem dX12_two_185 : decode cX12_two 185 = .ok (.putfield 169, 3) := by decide +kernel
theorem dX12_two_188 : decode cX12_two 188 = .ok (.aload_n 0, 1) := by decide +kernel
theorem dX12_two_189 : decode cX12_two 189 = .ok (.dup, 1) := by decide +kernel
theorem dX12_two_190 : decode cX12_two 190 = .ok (.getfield 166, 3) := by decide +kernel
theorem dX12_two_193 : decode cX12_two 193 = .ok (.iconst 1, 1) := by decide +kernel
theorem dX12_two_194 : decode cX12_two 194 = .ok (.iadd, 1) := by decide +kernel
theorem dX12_two_195 : decode cX12_two 195 = .ok (.putfield 166, 3) := by decide +kernel
theorem dX12_two_198 : decode cX12_two 198 = .ok (.iinc 8 1, 3) := by decide +kernel
theorem dX12_two_201 : decode cX12_two 201 = .ok (.goto (-109), 3) := by decide +kernel
theorem dX12_two_204 : decode cX12_two 204 = .ok (.iinc 7 1, 3) := by decide +kernel
theorem dX12_two_207 : decode cX12_two 207 = .ok (.goto (-125), 3) := by decide +kernel
theorem dX12_two_210 : decode cX12_two 210 = .ok (.aload_n 0, 1) := by decide +kernel
theorem dX12_two_211 : decode cX12_two 211 = .ok (.invokevirtual 172, 3) := by decide +kernel
theorem dX12_two_214 : decode cX12_two 214 = .ok (.aload_n 0, 1) := by decide +kernel
theorem dX12_two_215 : decode cX12_two 215 = .ok (.invokevirtual 223, 3) := by decide +kernel
theorem dX12_two_218 : decode cX12_two 218 = .ok (.iconst 0, 1) := by decide +kernel
theorem dX12_two_219 : decode cX12_two 219 = .ok (.istore 7, 2) := by decide +kernel
theorem dX12_two_221 : decode cX12_two 221 = .ok (.iconst 0, 1) := by decide +kernel
theorem dX12_two_222 : decode cX12_two 222 = .ok (.istore 8, 2) := by decide +kernel
theorem dX12_two_224 : decode cX12_two 224 = .ok (.iload 8, 2) := by decide +kernel
theorem dX12_two_226 : decode cX12_two 226 = .ok (.aload_n 0, 1) := by decide +kernel
theorem dX12_two_227 : decode cX12_two 227 = .ok (.getfield 166, 3) := by decide +kernel
theorem dX12_two_230 : decode cX12_two 230 = .ok (.if_icmp .ge 51, 3) := by decide +kernel
theorem dX12_two_233 : decode cX12_two 233 = .ok (.iload 7, 2) := by decide +kernel
theorem dX12_two_235 : decode cX12_two 235 = .ok (.aload_n 0, 1) := by decide +kernel
theorem dX12_two_236 : decode cX12_two 236 = .ok (.getfield 58, 3) := by decide +kernel
theorem dX12_two_239 : decode cX12_two 239 = .ok (.iload 8, 2) := by decide +kernel
theorem dX12_two_241 : decode cX12_two 241 = .ok (.iaload, 1) := by decide +kernel
theorem dX12_two_242 : decode cX12_two 242 = .ok (.iload 5, 2) := by decide +kernel
theorem dX12_two_244 : decode cX12_two 244 = .ok (.if_icmp .ne 27, 3) := by decide +kernel
theorem dX12_two_247 : decode cX12_two 247 = .ok (.aload_n 0, 1) := by decide +kernel
theorem dX12_two_248 : decode cX12_two 248 = .ok (.iload 8, 2) := by decide +kernel
theorem dX12_two_250 : decode cX12_two 250 = .ok (.invokevirtual 193, 3) := by decide +kernel
theorem dX12_two_253 : decode cX12_two 253 = .ok (.ifCond .ne 14, 3) := by decide +kernel
theorem dX12_two_256 : decode cX12_two 256 = .ok (.aload_n 0, 1) := by decide +kernel
theorem dX12_two_257 : decode cX12_two 257 = .ok (.getfield 49, 3) := by decide +kernel
theorem dX12_two_260 : decode cX12_two 260 = .ok (.iload 8, 2) := by decide +kernel
theorem dX12_two_262 : decode cX12_two 262 = .ok (.iaload, 1) := by decide +kernel
theorem dX12_two_263 : decode cX12_two 263 = .ok (.iconst 4, 1) := by decide +kernel
theorem dX12_two_264 : decode cX12_two 264 = .ok (.if_icmp .ne 7, 3) := by decide +kernel
theorem dX12_two_267 : decode cX12_two 267 = .ok (.iconst 1, 1) := by decide +kernel
theorem dX12_two_268 : decode cX12_two 268 = .ok (.goto 4, 3) := by decide +kernel
theorem dX12_two_271 : decode cX12_two 271 = .ok (.iconst 0, 1) := by decide +kernel
theorem dX12_two_272 : decode cX12_two 272 = .ok (.iadd, 1) := by decide +kernel
theorem dX12_two_273 : decode cX12_two 273 = .ok (.istore 7, 2) := by decide +kernel
theorem dX12_two_275 : decode cX12_two 275 = .ok (.iinc 8 1, 3) := by decide +kernel
theorem dX12_two_278 : decode cX12_two 278 = .ok (.goto (-54), 3) := by decide +kernel
theorem dX12_two_281 : decode cX12_two 281 = .ok (.iload 7, 2) := by decide +kernel
theorem dX12_two_283 : decode cX12_two 283 = .ok (.ireturn, 1) := by decide +kernel
theorem dX12_month_0 : decode cX12_month 0 = .ok (.iconst 0, 1) := by decide +kernel
theorem dX12_month_1 : decode cX12_month 1 = .ok (.istore_n 1, 1) := by decide +kernel
theorem dX12_month_2 : decode cX12_month 2 = .ok (.iconst 1, 1) := by decide +kernel
theorem dX12_month_3 : decode cX12_month 3 = .ok (.istore_n 2, 1) := by decide +kernel
theorem dX12_month_4 : decode cX12_month 4 = .ok (.iload_n 2, 1) := by decide +kernel
theorem dX12_month_5 : decode cX12_month 5 = .ok (.bipush 8, 2) := by decide +kernel
theorem dX12_month_7 : decode cX12_month 7 = .ok (.if_icmp .ge 28, 3) := by decide +kernel
theorem dX12_month_10 : decode cX12_month 10 = .ok (.aload_n 0, 1) := by decide +kernel
theorem dX12_month_11 : decode cX12_month 11 = .ok (.iload_n 2, 1) := by decide +kernel
theorem dX12_month_12 : decode cX12_month 12 = .ok (.invokevirtual 190, 3) := by decide +kernel
theorem dX12_month_15 : decode cX12_month 15 = .ok (.aload_n 0, 1) := by decide +kernel
theorem dX12_month_16 : decode cX12_month 16 = .ok (.iload_n 1, 1) := by decide +kernel
theorem dX12_month_17 : decode cX12_month 17 = .ok (.invokevirtual 190, 3) := by decide +kernel
theorem dX12_month_20 : decode cX12_month 20 = .ok (.if_icmp .ge 7, 3) := by decide +kernel
theorem dX12_month_23 : decode cX12_month 23 = .ok (.iload_n 2, 1) := by decide +kernel
theorem dX12_month_24 : decode cX12_month 24 = .ok (.goto 4, 3) := by decide +kernel
theorem dX12_month_27 : decode cX12_month 27 = .ok (.iload_n 1, 1) := by decide +kernel
theorem dX12_month_28 : decode cX12_month 28 = .ok (.istore_n 1, 1) := by decide +kernel
theorem dX12_month_29 : decode cX12_month 29 = .ok (.iinc 2 1, 3) := by decide +kernel
theorem dX12_month_32 : decode cX12_month 32 = .ok (.goto (-28), 3) := by decide +kernel
theorem dX12_month_35 : decode cX12_month 35 = .ok (.iload_n 1, 1) := by decide +kernel
theorem dX12_month_36 : decode cX12_month 36 = .ok (.ireturn, 1) := by decide +kernel
theorem dX12_nail_0 : decode cX12_nail 0 = .ok (.iload_n 1, 1) := by decide +kernel
theorem dX12_nail_1 : decode cX12_nail 1 = .ok (.i2l, 1) := by decide +kernel
theorem dX12_nail_2 : decode cX12_nail 2 = .ok (.lconst 0, 1) := by decide +kernel
theorem dX12_nail_3 : decode cX12_nail 3 = .ok (.ldc2_w 69, 3) := by decide +kernel
theorem dX12_nail_6 : decode cX12_nail 6 = .ok (.invokestatic 65, 3) := by decide +kernel
theorem dX12_nail_9 : decode cX12_nail 9 = .ok (.ifCond .eq 11, 3) := by decide +kernel
theorem dX12_nail_12 : decode cX12_nail 12 = .ok (.aload_n 0, 1) := by decide +kernel
theorem dX12_nail_13 : decode cX12_nail 13 = .ok (.iload_n 1, 1) := by decide +kernel
theorem dX12_nail_14 : decode cX12_nail 14 = .ok (.invokevirtual 190, 3) := by decide +kernel
theorem dX12_nail_17 : decode cX12_nail 17 = .ok (.goto 4, 3) := by decide +kernel
theorem dX12_nail_20 : decode cX12_nail 20 = .ok (.iconst (-1), 1) := by decide +kernel
theorem dX12_nail_21 : decode cX12_nail 21 = .ok (.ireturn, 1) := by decide +kernel
theorem dX12_byLaw_0 : decode cX12_byLaw 0 = .ok (.iload_n 1, 1) := by decide +kernel
theorem dX12_byLaw_1 : decode cX12_byLaw 1 = .ok (.i2l, 1) := by decide +kernel
theorem dX12_byLaw_2 : decode cX12_byLaw 2 = .ok (.lconst 0, 1) := by decide +kernel
theorem dX12_byLaw_3 : decode cX12_byLaw 3 = .ok (.ldc2_w 156, 3) := by decide +kernel
theorem dX12_byLaw_6 : decode cX12_byLaw 6 = .ok (.invokestatic 65, 3) := by decide +kernel
theorem dX12_byLaw_9 : decode cX12_byLaw 9 = .ok (.ifCond .eq 17, 3) := by decide +kernel
theorem dX12_byLaw_12 : decode cX12_byLaw 12 = .ok (.iload_n 2, 1) := by decide +kernel
theorem dX12_byLaw_13 : decode cX12_byLaw 13 = .ok (.invokestatic 123, 3) := by decide +kernel
theorem dX12_byLaw_16 : decode cX12_byLaw 16 = .ok (.ifCond .eq 10, 3) := by decide +kernel
theorem dX12_byLaw_19 : decode cX12_byLaw 19 = .ok (.iload_n 3, 1) := by decide +kernel
theorem dX12_byLaw_20 : decode cX12_byLaw 20 = .ok (.invokestatic 214, 3) := by decide +kernel
theorem dX12_byLaw_23 : decode cX12_byLaw 23 = .ok (.ifCond .ne 5, 3) := by decide +kernel
theorem dX12_byLaw_26 : decode cX12_byLaw 26 = .ok (.iconst (-1), 1) := by decide +kernel
theorem dX12_byLaw_27 : decode cX12_byLaw 27 = .ok (.ireturn, 1) := by decide +kernel
theorem dX12_byLaw_28 : decode cX12_byLaw 28 = .ok (.aload_n 0, 1) := by decide +kernel
theorem dX12_byLaw_29 : decode cX12_byLaw 29 = .ok (.iload_n 2, 1) := by decide +kernel
theorem dX12_byLaw_30 : decode cX12_byLaw 30 = .ok (.invokevirtual 217, 3) := by decide +kernel
theorem dX12_byLaw_33 : decode cX12_byLaw 33 = .ok (.istore 4, 2) := by decide +kernel
theorem dX12_byLaw_35 : decode cX12_byLaw 35 = .ok (.iload 4, 2) := by decide +kernel
theorem dX12_byLaw_37 : decode cX12_byLaw 37 = .ok (.ifCond .eq 6, 3) := by decide +kernel
theorem dX12_byLaw_40 : decode cX12_byLaw 40 = .ok (.iload 4, 2) := by decide +kernel
theorem dX12_byLaw_42 : decode cX12_byLaw 42 = .ok (.ireturn, 1) := by decide +kernel
theorem dX12_byLaw_43 : decode cX12_byLaw 43 = .ok (.aload_n 0, 1) := by decide +kernel
theorem dX12_byLaw_44 : decode cX12_byLaw 44 = .ok (.getfield 9, 3) := by decide +kernel
theorem dX12_byLaw_47 : decode cX12_byLaw 47 = .ok (.iconst 3, 1) := by decide +kernel
theorem dX12_byLaw_48 : decode cX12_byLaw 48 = .ok (.iaload, 1) := by decide +kernel
theorem dX12_byLaw_49 : decode cX12_byLaw 49 = .ok (.istore 5, 2) := by decide +kernel
theorem dX12_byLaw_51 : decode cX12_byLaw 51 = .ok (.aload_n 0, 1) := by decide +kernel
theorem dX12_byLaw_52 : decode cX12_byLaw 52 = .ok (.getfield 9, 3) := by decide +kernel
theorem dX12_byLaw_55 : decode cX12_byLaw 55 = .ok (.iconst 3, 1) := by decide +kernel
theorem dX12_byLaw_56 : decode cX12_byLaw 56 = .ok (.iload_n 1, 1) := by decide +kernel
theorem dX12_byLaw_57 : decode cX12_byLaw 57 = .ok (.iastore, 1) := by decide +kernel
theorem dX12_byLaw_58 : decode cX12_byLaw 58 = .ok (.aload_n 0, 1) := by decide +kernel
theorem dX12_byLaw_59 : decode cX12_byLaw 59 = .ok (.iload_n 2, 1) := by decide +kernel
theorem dX12_byLaw_60 : decode cX12_byLaw 60 = .ok (.iload_n 3, 1) := by decide +kernel
theorem dX12_byLaw_61 : decode cX12_byLaw 61 = .ok (.invokevirtual 220, 3) := by decide +kernel
theorem dX12_byLaw_64 : decode cX12_byLaw 64 = .ok (.aload_n 0, 1) := by decide +kernel
theorem dX12_byLaw_65 : decode cX12_byLaw 65 = .ok (.invokevirtual 223, 3) := by decide +kernel
theorem dX12_byLaw_68 : decode cX12_byLaw 68 = .ok (.aload_n 0, 1) := by decide +kernel
theorem dX12_byLaw_69 : decode cX12_byLaw 69 = .ok (.getfield 9, 3) := by decide +kernel
theorem dX12_byLaw_72 : decode cX12_byLaw 72 = .ok (.iconst 3, 1) := by decide +kernel
theorem dX12_byLaw_73 : decode cX12_byLaw 73 = .ok (.iload 5, 2) := by decide +kernel
theorem dX12_byLaw_75 : decode cX12_byLaw 75 = .ok (.iastore, 1) := by decide +kernel
theorem dX12_byLaw_76 : decode cX12_byLaw 76 = .ok (.aload_n 0, 1) := by decide +kernel
theorem dX12_byLaw_77 : decode cX12_byLaw 77 = .ok (.getfield 175, 3) := by decide +kernel
theorem dX12_byLaw_80 : decode cX12_byLaw 80 = .ok (.invokestatic 235, 3) := by decide +kernel
theorem dX12_byLaw_83 : decode cX12_byLaw 83 = .ok (.ireturn, 1) := by decide +kernel
theorem dX12_drawn_0 : decode cX12_drawn 0 = .ok (.aload_n 0, 1) := by decide +kernel
theorem dX12_drawn_1 : decode cX12_drawn 1 = .ok (.aload_n 0, 1) := by decide +kernel
theorem dX12_drawn_2 : decode cX12_drawn 2 = .ok (.getfield 288, 3) := by decide +kernel
theorem dX12_drawn_5 : decode cX12_drawn 5 = .ok (.ldc_w 291, 3) := by decide +kernel
theorem dX12_drawn_8 : decode cX12_drawn 8 = .ok (.imul, 1) := by decide +kernel
theorem dX12_drawn_9 : decode cX12_drawn 9 = .ok (.sipush 12345, 3) := by decide +kernel
theorem dX12_drawn_12 : decode cX12_drawn 12 = .ok (.iadd, 1) := by decide +kernel
theorem dX12_drawn_13 : decode cX12_drawn 13 = .ok (.putfield 288, 3) := by decide +kernel
theorem dX12_drawn_16 : decode cX12_drawn 16 = .ok (.aload_n 0, 1) := by decide +kernel
theorem dX12_drawn_17 : decode cX12_drawn 17 = .ok (.getfield 288, 3) := by decide +kernel
theorem dX12_drawn_20 : decode cX12_drawn 20 = .ok (.ldc_w 292, 3) := by decide +kernel
theorem dX12_drawn_23 : decode cX12_drawn 23 = .ok (.iand, 1) := by decide +kernel
theorem dX12_drawn_24 : decode cX12_drawn 24 = .ok (.ldc_w 293, 3) := by decide +kernel
theorem dX12_drawn_27 : decode cX12_drawn 27 = .ok (.idiv, 1) := by decide +kernel
theorem dX12_drawn_28 : decode cX12_drawn 28 = .ok (.iload_n 1, 1) := by decide +kernel
theorem dX12_drawn_29 : decode cX12_drawn 29 = .ok (.irem, 1) := by decide +kernel
theorem dX12_drawn_30 : decode cX12_drawn 30 = .ok (.ireturn, 1) := by decide +kernel
theorem dX12_seeded_0 : decode cX12_seeded 0 = .ok (.iload_n 1, 1) := by decide +kernel
theorem dX12_seeded_1 : decode cX12_seeded 1 = .ok (.i2l, 1) := by decide +kernel
theorem dX12_seeded_2 : decode cX12_seeded 2 = .ok (.lconst 1, 1) := by decide +kernel
theorem dX12_seeded_3 : decode cX12_seeded 3 = .ok (.ldc2_w 294, 3) := by decide +kernel
theorem dX12_seeded_6 : decode cX12_seeded 6 = .ok (.invokestatic 65, 3) := by decide +kernel
theorem dX12_seeded_9 : decode cX12_seeded 9 = .ok (.ifCond .eq 15, 3) := by decide +kernel
theorem dX12_seeded_12 : decode cX12_seeded 12 = .ok (.iload_n 3, 1) := by decide +kernel
theorem dX12_seeded_13 : decode cX12_seeded 13 = .ok (.i2l, 1) := by decide +kernel
theorem dX12_seeded_14 : decode cX12_seeded 14 = .ok (.lconst 0, 1) := by decide +kernel
theorem dX12_seeded_15 : decode cX12_seeded 15 = .ok (.ldc2_w 156, 3) := by decide +kernel
theorem dX12_seeded_18 : decode cX12_seeded 18 = .ok (.invokestatic 65, 3) := by decide +kernel
theorem dX12_seeded_21 : decode cX12_seeded 21 = .ok (.ifCond .ne 5, 3) := by decide +kernel
theorem dX12_seeded_24 : decode cX12_seeded 24 = .ok (.iconst (-1), 1) := by decide +kernel
theorem dX12_seeded_25 : decode cX12_seeded 25 = .ok (.ireturn, 1) := by decide +kernel
theorem dX12_seeded_26 : decode cX12_seeded 26 = .ok (.aload_n 0, 1) := by decide +kernel
theorem dX12_seeded_27 : decode cX12_seeded 27 = .ok (.getfield 9, 3) := by decide +kernel
theorem dX12_seeded_30 : decode cX12_seeded 30 = .ok (.bipush 6, 2) := by decide +kernel
theorem dX12_seeded_32 : decode cX12_seeded 32 = .ok (.iaload, 1) := by decide +kernel
theorem dX12_seeded_33 : decode cX12_seeded 33 = .ok (.ifCond .ne 6, 3) := by decide +kernel
theorem dX12_seeded_36 : decode cX12_seeded 36 = .ok (.bipush (-3), 2) := by decide +kernel
theorem dX12_seeded_38 : decode cX12_seeded 38 = .ok (.ireturn, 1) := by decide +kernel
theorem dX12_seeded_39 : decode cX12_seeded 39 = .ok (.aload_n 0, 1) := by decide +kernel
theorem dX12_seeded_40 : decode cX12_seeded 40 = .ok (.iload_n 2, 1) := by decide +kernel
theorem dX12_seeded_41 : decode cX12_seeded 41 = .ok (.putfield 288, 3) := by decide +kernel
theorem dX12_seeded_44 : decode cX12_seeded 44 = .ok (.aload_n 0, 1) := by decide +kernel
theorem dX12_seeded_45 : decode cX12_seeded 45 = .ok (.invokevirtual 172, 3) := by decide +kernel
theorem dX12_seeded_48 : decode cX12_seeded 48 = .ok (.iconst 0, 1) := by decide +kernel
theorem dX12_seeded_49 : decode cX12_seeded 49 = .ok (.istore 4, 2) := by decide +kernel
theorem dX12_seeded_51 : decode cX12_seeded 51 = .ok (.iload 4, 2) := by decide +kernel
theorem dX12_seeded_53 : decode cX12_seeded 53 = .ok (.iload_n 1, 1) := by decide +kernel
theorem dX12_seeded_54 : decode cX12_seeded 54 = .ok (.if_icmp .ge 74, 3) := by decide +kernel
theorem dX12_seeded_57 : decode cX12_seeded 57 = .ok (.aload_n 0, 1) := by decide +kernel
theorem dX12_seeded_58 : decode cX12_seeded 58 = .ok (.iconst 1, 1) := by decide +kernel
theorem dX12_seeded_59 : decode cX12_seeded 59 = .ok (.aload_n 0, 1) := by decide +kernel
theorem dX12_seeded_60 : decode cX12_seeded 60 = .ok (.iconst 4, 1) := by decide +kernel
theorem dX12_seeded_61 : decode cX12_seeded 61 = .ok (.invokevirtual 296, 3) := by decide +kernel
theorem dX12_seeded_64 : decode cX12_seeded 64 = .ok (.iadd, 1) := by decide +kernel
theorem dX12_seeded_65 : decode cX12_seeded 65 = .ok (.putfield 166, 3) := by decide +kernel
theorem dX12_seeded_68 : decode cX12_seeded 68 = .ok (.iconst 0, 1) := by decide +kernel
theorem dX12_seeded_69 : decode cX12_seeded 69 = .ok (.istore 5, 2) := by decide +kernel
theorem dX12_seeded_71 : decode cX12_seeded 71 = .ok (.iload 5, 2) := by decide +kernel
theorem dX12_seeded_73 : decode cX12_seeded 73 = .ok (.aload_n 0, 1) := by decide +kernel
theorem dX12_seeded_74 : decode cX12_seeded 74 = .ok (.getfield 166, 3) := by decide +kernel
theorem dX12_seeded_77 : decode cX12_seeded 77 = .ok (.if_icmp .ge 27, 3) := by decide +kernel
theorem dX12_seeded_80 : decode cX12_seeded 80 = .ok (.aload_n 0, 1) := by decide +kernel
theorem dX12_seeded_81 : decode cX12_seeded 81 = .ok (.getfield 40, 3) := by decide +kernel
theorem dX12_seeded_84 : decode cX12_seeded 84 = .ok (.iload 5, 2) := by decide +kernel
theorem dX12_seeded_86 : decode cX12_seeded 86 = .ok (.aload_n 0, 1) := by decide +kernel
theorem dX12_seeded_87 : decode cX12_seeded 87 = .ok (.aload_n 0, 1) := by decide +kernel
theorem dX12_seeded_88 : decode cX12_seeded 88 = .ok (.getfield 9, 3) := by decide +kernel
theorem dX12_seeded_91 : decode cX12_seeded 91 = .ok (.bipush 6, 2) := by decide +kernel
theorem dX12_seeded_93 : decode cX12_seeded 93 = .ok (.iaload, 1) := by decide +kernel
theorem dX12_seeded_94 : decode cX12_seeded 94 = .ok (.invokevirtual 296, 3) := by decide +kernel
theorem dX12_seeded_97 : decode cX12_seeded 97 = .ok (.iastore, 1) := by decide +kernel
theorem dX12_seeded_98 : decode cX12_seeded 98 = .ok (.iinc 5 1, 3) := by decide +kernel
theorem dX12_seeded_101 : decode cX12_seeded 101 = .ok (.goto (-30), 3) := by decide +kernel
theorem dX12_seeded_104 : decode cX12_seeded 104 = .ok (.aload_n 0, 1) := by decide +kernel
theorem dX12_seeded_105 : decode cX12_seeded 105 = .ok (.aload_n 0, 1) := by decide +kernel
theorem dX12_seeded_106 : decode cX12_seeded 106 = .ok (.iconst 1, 1) := by decide +kernel
theorem dX12_seeded_107 : decode cX12_seeded 107 = .ok (.aload_n 0, 1) := by decide +kernel
theorem dX12_seeded_108 : decode cX12_seeded 108 = .ok (.getfield 166, 3) := by decide +kernel
theorem dX12_seeded_111 : decode cX12_seeded 111 = .ok (.ishl, 1) := by decide +kernel
theorem dX12_seeded_112 : decode cX12_seeded 112 = .ok (.invokevirtual 296, 3) := by decide +kernel
theorem dX12_seeded_115 : decode cX12_seeded 115 = .ok (.putfield 169, 3) := by decide +kernel
theorem dX12_seeded_118 : decode cX12_seeded 118 = .ok (.aload_n 0, 1) := by decide +kernel
theorem dX12_seeded_119 : decode cX12_seeded 119 = .ok (.invokevirtual 223, 3) := by decide +kernel
theorem dX12_seeded_122 : decode cX12_seeded 122 = .ok (.iinc 4 1, 3) := by decide +kernel
theorem dX12_seeded_125 : decode cX12_seeded 125 = .ok (.goto (-74), 3) := by decide +kernel
theorem dX12_seeded_128 : decode cX12_seeded 128 = .ok (.iload_n 3, 1) := by decide +kernel
theorem dX12_seeded_129 : decode cX12_seeded 129 = .ok (.ifCond .ne 10, 3) := by decide +kernel
theorem dX12_seeded_132 : decode cX12_seeded 132 = .ok (.aload_n 0, 1) := by decide +kernel
theorem dX12_seeded_133 : decode cX12_seeded 133 = .ok (.getfield 175, 3) := by decide +kernel
theorem dX12_seeded_136 : decode cX12_seeded 136 = .ok (.goto 19, 3) := by decide +kernel
theorem dX12_seeded_139 : decode cX12_seeded 139 = .ok (.iload_n 3, 1) := by decide +kernel
theorem dX12_seeded_140 : decode cX12_seeded 140 = .ok (.iconst 1, 1) := by decide +kernel
theorem dX12_seeded_141 : decode cX12_seeded 141 = .ok (.if_icmp .ne 10, 3) := by decide +kernel
theorem dX12_seeded_144 : decode cX12_seeded 144 = .ok (.aload_n 0, 1) := by decide +kernel
theorem dX12_seeded_145 : decode cX12_seeded 145 = .ok (.getfield 178, 3) := by decide +kernel
theorem dX12_seeded_148 : decode cX12_seeded 148 = .ok (.goto 7, 3) := by decide +kernel
theorem dX12_seeded_151 : decode cX12_seeded 151 = .ok (.aload_n 0, 1) := by decide +kernel
theorem dX12_seeded_152 : decode cX12_seeded 152 = .ok (.getfield 184, 3) := by decide +kernel
theorem dX12_seeded_155 : decode cX12_seeded 155 = .ok (.ireturn, 1) := by decide +kernel
theorem dX12_leastOf_0 : decode cX12_leastOf 0 = .ok (.aload_n 0, 1) := by decide +kernel
theorem dX12_leastOf_1 : decode cX12_leastOf 1 = .ok (.getfield 22, 3) := by decide +kernel
theorem dX12_leastOf_4 : decode cX12_leastOf 4 = .ok (.iload_n 1, 1) := by decide +kernel
theorem dX12_leastOf_5 : decode cX12_leastOf 5 = .ok (.iaload, 1) := by decide +kernel
theorem dX12_leastOf_6 : decode cX12_leastOf 6 = .ok (.ifCond .ne 8, 3) := by decide +kernel
theorem dX12_leastOf_9 : decode cX12_leastOf 9 = .ok (.bipush (-128), 2) := by decide +kernel
theorem dX12_leastOf_11 : decode cX12_leastOf 11 = .ok (.goto 22, 3) := by decide +kernel
theorem dX12_leastOf_14 : decode cX12_leastOf 14 = .ok (.aload_n 0, 1) := by decide +kernel
theorem dX12_leastOf_15 : decode cX12_leastOf 15 = .ok (.getfield 22, 3) := by decide +kernel
theorem dX12_leastOf_18 : decode cX12_leastOf 18 = .ok (.iload_n 1, 1) := by decide +kernel
theorem dX12_leastOf_19 : decode cX12_leastOf 19 = .ok (.iaload, 1) := by decide +kernel
theorem dX12_leastOf_20 : decode cX12_leastOf 20 = .ok (.iconst 1, 1) := by decide +kernel
theorem dX12_leastOf_21 : decode cX12_leastOf 21 = .ok (.if_icmp .ne 9, 3) := by decide +kernel
theorem dX12_leastOf_24 : decode cX12_leastOf 24 = .ok (.sipush (-32768), 3) := by decide +kernel
theorem dX12_leastOf_27 : decode cX12_leastOf 27 = .ok (.goto 6, 3) := by decide +kernel
theorem dX12_leastOf_30 : decode cX12_leastOf 30 = .ok (.ldc_w 299, 3) := by decide +kernel
theorem dX12_leastOf_33 : decode cX12_leastOf 33 = .ok (.ireturn, 1) := by decide +kernel
theorem dX12_judge_0 : decode cX12_judge 0 = .ok (.iload_n 1, 1) := by decide +kernel
theorem dX12_judge_1 : decode cX12_judge 1 = .ok (.invokestatic 123, 3) := by decide +kernel
theorem dX12_judge_4 : decode cX12_judge 4 = .ok (.ifCond .eq 17, 3) := by decide +kernel
theorem dX12_judge_7 : decode cX12_judge 7 = .ok (.iload_n 2, 1) := by decide +kernel
theorem dX12_judge_8 : decode cX12_judge 8 = .ok (.invokestatic 214, 3) := by decide +kernel
theorem dX12_judge_11 : decode cX12_judge 11 = .ok (.ifCond .eq 10, 3) := by decide +kernel
theorem dX12_judge_14 : decode cX12_judge 14 = .ok (.iload_n 3, 1) := by decide +kernel
theorem dX12_judge_15 : decode cX12_judge 15 = .ok (.invokestatic 123, 3) := by decide +kernel
theorem dX12_judge_18 : decode cX12_judge 18 = .ok (.ifCond .ne 5, 3) := by decide +kernel
theorem dX12_judge_21 : decode cX12_judge 21 = .ok (.iconst (-1), 1) := by decide +kernel
theorem dX12_judge_22 : decode cX12_judge 22 = .ok (.ireturn, 1) := by decide +kernel
theorem dX12_judge_23 : decode cX12_judge 23 = .ok (.aload_n 0, 1) := by decide +kernel
theorem dX12_judge_24 : decode cX12_judge 24 = .ok (.iload_n 1, 1) := by decide +kernel
theorem dX12_judge_25 : decode cX12_judge 25 = .ok (.invokevirtual 217, 3) := by decide +kernel
theorem dX12_judge_28 : decode cX12_judge 28 = .ok (.istore 4, 2) := by decide +kernel
theorem dX12_judge_30 : decode cX12_judge 30 = .ok (.iload 4, 2) := by decide +kernel
theorem dX12_judge_32 : decode cX12_judge 32 = .ok (.ifCond .ne 11, 3) := by decide +kernel
theorem dX12_judge_35 : decode cX12_judge 35 = .ok (.aload_n 0, 1) := by decide +kernel
theorem dX12_judge_36 : decode cX12_judge 36 = .ok (.iload_n 3, 1) := by decide +kernel
theorem dX12_judge_37 : decode cX12_judge 37 = .ok (.iconst (-1), 1) := by decide +kernel
theorem dX12_judge_38 : decode cX12_judge 38 = .ok (.invokevirtual 126, 3) := by decide +kernel
theorem dX12_judge_41 : decode cX12_judge 41 = .ok (.istore 4, 2) := by decide +kernel
theorem dX12_judge_43 : decode cX12_judge 43 = .ok (.iload 4, 2) := by decide +kernel
theorem dX12_judge_45 : decode cX12_judge 45 = .ok (.ifCond .eq 6, 3) := by decide +kernel
theorem dX12_judge_48 : decode cX12_judge 48 = .ok (.iload 4, 2) := by decide +kernel
theorem dX12_judge_50 : decode cX12_judge 50 = .ok (.ireturn, 1) := by decide +kernel
theorem dX12_judge_51 : decode cX12_judge 51 = .ok (.aload_n 0, 1) := by decide +kernel
theorem dX12_judge_52 : decode cX12_judge 52 = .ok (.iload_n 1, 1) := by decide +kernel
theorem dX12_judge_53 : decode cX12_judge 53 = .ok (.iload_n 2, 1) := by decide +kernel
theorem dX12_judge_54 : decode cX12_judge 54 = .ok (.invokevirtual 220, 3) := by decide +kernel
theorem dX12_judge_57 : decode cX12_judge 57 = .ok (.aload_n 0, 1) := by decide +kernel
theorem dX12_judge_58 : decode cX12_judge 58 = .ok (.invokevirtual 223, 3) := by decide +kernel
theorem dX12_judge_61 : decode cX12_judge 61 = .ok (.iconst 0, 1) := by decide +kernel
theorem dX12_judge_62 : decode cX12_judge 62 = .ok (.istore 5, 2) := by decide +kernel
theorem dX12_judge_64 : decode cX12_judge 64 = .ok (.iload 5, 2) := by decide +kernel
theorem dX12_judge_66 : decode cX12_judge 66 = .ok (.aload_n 0, 1) := by decide +kernel
theorem dX12_judge_67 : decode cX12_judge 67 = .ok (.getfield 25, 3) := by decide +kernel
theorem dX12_judge_70 : decode cX12_judge 70 = .ok (.iload_n 3, 1) := by decide +kernel
theorem dX12_judge_71 : decode cX12_judge 71 = .ok (.iaload, 1) := by decide +kernel
theorem dX12_judge_72 : decode cX12_judge 72 = .ok (.if_icmp .ge 76, 3) := by decide +kernel
theorem dX12_judge_75 : decode cX12_judge 75 = .ok (.aload_n 0, 1) := by decide +kernel
theorem dX12_judge_76 : decode cX12_judge 76 = .ok (.getfield 28, 3) := by decide +kernel
theorem dX12_judge_79 : decode cX12_judge 79 = .ok (.bipush 100, 2) := by decide +kernel
theorem dX12_judge_81 : decode cX12_judge 81 = .ok (.iload_n 3, 1) := by decide +kernel
theorem dX12_judge_82 : decode cX12_judge 82 = .ok (.imul, 1) := by decide +kernel
theorem dX12_judge_83 : decode cX12_judge 83 = .ok (.iload 5, 2) := by decide +kernel
theorem dX12_judge_85 : decode cX12_judge 85 = .ok (.iadd, 1) := by decide +kernel
theorem dX12_judge_86 : decode cX12_judge 86 = .ok (.iaload, 1) := by decide +kernel
theorem dX12_judge_87 : decode cX12_judge 87 = .ok (.istore 6, 2) := by decide +kernel
theorem dX12_judge_89 : decode cX12_judge 89 = .ok (.iload 6, 2) := by decide +kernel
theorem dX12_judge_91 : decode cX12_judge 91 = .ok (.aload_n 0, 1) := by decide +kernel
theorem dX12_judge_92 : decode cX12_judge 92 = .ok (.iload_n 3, 1) := by decide +kernel
theorem dX12_judge_93 : decode cX12_judge 93 = .ok (.invokevirtual 300, 3) := by decide +kernel
theorem dX12_judge_96 : decode cX12_judge 96 = .ok (.if_icmp .ne 6, 3) := by decide +kernel
theorem dX12_judge_99 : decode cX12_judge 99 = .ok (.goto 43, 3) := by decide +kernel
theorem dX12_judge_102 : decode cX12_judge 102 = .ok (.iload 5, 2) := by decide +kernel
theorem dX12_judge_104 : decode cX12_judge 104 = .ok (.aload_n 0, 1) := by decide +kernel
theorem dX12_judge_105 : decode cX12_judge 105 = .ok (.getfield 166, 3) := by decide +kernel
theorem dX12_judge_108 : decode cX12_judge 108 = .ok (.if_icmp .gt 31, 3) := by decide +kernel
theorem dX12_judge_111 : decode cX12_judge 111 = .ok (.iload 6, 2) := by decide +kernel
theorem dX12_judge_113 : decode cX12_judge 113 = .ok (.iload 5, 2) := by decide +kernel
theorem dX12_judge_115 : decode cX12_judge 115 = .ok (.aload_n 0, 1) := by decide +kernel
theorem dX12_judge_116 : decode cX12_judge 116 = .ok (.getfield 166, 3) := by decide +kernel
theorem dX12_judge_119 : decode cX12_judge 119 = .ok (.if_icmp .ge 13, 3) := by decide +kernel
theorem dX12_judge_122 : decode cX12_judge 122 = .ok (.aload_n 0, 1) := by decide +kernel
theorem dX12_judge_123 : decode cX12_judge 123 = .ok (.getfield 52, 3) := by decide +kernel
theorem dX12_judge_126 : decode cX12_judge 126 = .ok (.iload 5, 2) := by decide +kernel
theorem dX12_judge_128 : decode cX12_judge 128 = .ok (.iaload, 1) := by decide +kernel
theorem dX12_judge_129 : decode cX12_judge 129 = .ok (.goto 7, 3) := by decide +kernel
theorem dX12_judge_132 : decode cX12_judge 132 = .ok (.aload_n 0, 1) := by decide +kernel
theorem dX12_judge_133 : decode cX12_judge 133 = .ok (.getfield 175, 3) := by decide +kernel
theorem dX12_judge_136 : decode cX12_judge 136 = .ok (.if_icmp .eq 6, 3) := by decide +kernel
theorem dX12_judge_139 : decode cX12_judge 139 = .ok (.iload 5, 2) := by decide +kernel
theorem dX12_judge_141 : decode cX12_judge 141 = .ok (.ireturn, 1) := by decide +kernel
theorem dX12_judge_142 : decode cX12_judge 142 = .ok (.iinc 5 1, 3) := by decide +kernel
theorem dX12_judge_145 : decode cX12_judge 145 = .ok (.goto (-81), 3) := by decide +kernel
theorem dX12_judge_148 : decode cX12_judge 148 = .ok (.bipush (-4), 2) := by decide +kernel
theorem dX12_judge_150 : decode cX12_judge 150 = .ok (.ireturn, 1) := by decide +kernel
theorem dX12_image_0 : decode cX12_image 0 = .ok (.iconst 0, 1) := by decide +kernel
theorem dX12_image_1 : decode cX12_image 1 = .ok (.istore_n 1, 1) := by decide +kernel
theorem dX12_image_2 : decode cX12_image 2 = .ok (.iload_n 1, 1) := by decide +kernel
theorem dX12_image_3 : decode cX12_image 3 = .ok (.bipush 47, 2) := by decide +kernel
theorem dX12_image_5 : decode cX12_image 5 = .ok (.if_icmp .ge 21, 3) := by decide +kernel
theorem dX12_image_8 : decode cX12_image 8 = .ok (.aload_n 0, 1) := by decide +kernel
theorem dX12_image_9 : decode cX12_image 9 = .ok (.getfield 13, 3) := by decide +kernel
theorem dX12_image_12 : decode cX12_image 12 = .ok (.iload_n 1, 1) := by decide +kernel
theorem dX12_image_13 : decode cX12_image 13 = .ok (.aload_n 0, 1) := by decide +kernel
theorem dX12_image_14 : decode cX12_image 14 = .ok (.getfield 9, 3) := by decide +kernel
theorem dX12_image_17 : decode cX12_image 17 = .ok (.iload_n 1, 1) := by decide +kernel
theorem dX12_image_18 : decode cX12_image 18 = .ok (.iaload, 1) := by decide +kernel
theorem dX12_image_19 : decode cX12_image 19 = .ok (.iastore, 1) := by decide +kernel
theorem dX12_image_20 : decode cX12_image 20 = .ok (.iinc 1 1, 3) := by decide +kernel
theorem dX12_image_23 : decode cX12_image 23 = .ok (.goto (-21), 3) := by decide +kernel
theorem dX12_image_26 : decode cX12_image 26 = .ok (.aload_n 0, 1) := by decide +kernel
theorem dX12_image_27 : decode cX12_image 27 = .ok (.iconst 1, 1) := by decide +kernel
theorem dX12_image_28 : decode cX12_image 28 = .ok (.putfield 303, 3) := by decide +kernel
theorem dX12_image_31 : decode cX12_image 31 = .ok (.aload_n 0, 1) := by decide +kernel
theorem dX12_image_32 : decode cX12_image 32 = .ok (.getfield 9, 3) := by decide +kernel
theorem dX12_image_35 : decode cX12_image 35 = .ok (.iconst 2, 1) := by decide +kernel
theorem dX12_image_36 : decode cX12_image 36 = .ok (.iaload, 1) := by decide +kernel
theorem dX12_image_37 : decode cX12_image 37 = .ok (.ireturn, 1) := by decide +kernel
theorem dX12_restore_0 : decode cX12_restore 0 = .ok (.aload_n 0, 1) := by decide +kernel
theorem dX12_restore_1 : decode cX12_restore 1 = .ok (.getfield 303, 3) := by decide +kernel
theorem dX12_restore_4 : decode cX12_restore 4 = .ok (.ifCond .ne 6, 3) := by decide +kernel
theorem dX12_restore_7 : decode cX12_restore 7 = .ok (.bipush (-3), 2) := by decide +kernel
theorem dX12_restore_9 : decode cX12_restore 9 = .ok (.ireturn, 1) := by decide +kernel
theorem dX12_restore_10 : decode cX12_restore 10 = .ok (.iconst 0, 1) := by decide +kernel
theorem dX12_restore_11 : decode cX12_restore 11 = .ok (.istore_n 1, 1) := by decide +kernel
theorem dX12_restore_12 : decode cX12_restore 12 = .ok (.iload_n 1, 1) := by decide +kernel
theorem dX12_restore_13 : decode cX12_restore 13 = .ok (.bipush 47, 2) := by decide +kernel
theorem dX12_restore_15 : decode cX12_restore 15 = .ok (.if_icmp .ge 21, 3) := by decide +kernel
theorem dX12_restore_18 : decode cX12_restore 18 = .ok (.aload_n 0, 1) := by decide +kernel
theorem dX12_restore_19 : decode cX12_restore 19 = .ok (.getfield 9, 3) := by decide +kernel
theorem dX12_restore_22 : decode cX12_restore 22 = .ok (.iload_n 1, 1) := by decide +kernel
theorem dX12_restore_23 : decode cX12_restore 23 = .ok (.aload_n 0, 1) := by decide +kernel
theorem dX12_restore_24 : decode cX12_restore 24 = .ok (.getfield 13, 3) := by decide +kernel
theorem dX12_restore_27 : decode cX12_restore 27 = .ok (.iload_n 1, 1) := by decide +kernel
theorem dX12_restore_28 : decode cX12_restore 28 = .ok (.iaload, 1) := by decide +kernel
theorem dX12_restore_29 : decode cX12_restore 29 = .ok (.iastore, 1) := by decide +kernel
theorem dX12_restore_30 : decode cX12_restore 30 = .ok (.iinc 1 1, 3) := by decide +kernel
theorem dX12_restore_33 : decode cX12_restore 33 = .ok (.goto (-21), 3) := by decide +kernel
theorem dX12_restore_36 : decode cX12_restore 36 = .ok (.aload_n 0, 1) := by decide +kernel
theorem dX12_restore_37 : decode cX12_restore 37 = .ok (.getfield 9, 3) := by decide +kernel
theorem dX12_restore_40 : decode cX12_restore 40 = .ok (.iconst 2, 1) := by decide +kernel
theorem dX12_restore_41 : decode cX12_restore 41 = .ok (.iaload, 1) := by decide +kernel
theorem dX12_restore_42 : decode cX12_restore 42 = .ok (.ireturn, 1) := by decide +kernel
theorem dX12_count_0 : decode cX12_count 0 = .ok (.iconst 0, 1) := by decide +kernel
theorem dX12_count_1 : decode cX12_count 1 = .ok (.istore_n 2, 1) := by decide +kernel
theorem dX12_count_2 : decode cX12_count 2 = .ok (.iload_n 1, 1) := by decide +kernel
theorem dX12_count_3 : decode cX12_count 3 = .ok (.ifCond .ne 11, 3) := by decide +kernel
theorem dX12_count_6 : decode cX12_count 6 = .ok (.aload_n 0, 1) := by decide +kernel
theorem dX12_count_7 : decode cX12_count 7 = .ok (.getfield 9, 3) := by decide +kernel
theorem dX12_count_10 : decode cX12_count 10 = .ok (.bipush 6, 2) := by decide +kernel
theorem dX12_count_12 : decode cX12_count 12 = .ok (.iaload, 1) := by decide +kernel
theorem dX12_count_13 : decode cX12_count 13 = .ok (.ireturn, 1) := by decide +kernel
theorem dX12_count_14 : decode cX12_count 14 = .ok (.iload_n 1, 1) := by decide +kernel
theorem dX12_count_15 : decode cX12_count 15 = .ok (.iconst 1, 1) := by decide +kernel
theorem dX12_count_16 : decode cX12_count 16 = .ok (.if_icmp .ne 13, 3) := by decide +kernel
theorem dX12_count_19 : decode cX12_count 19 = .ok (.aload_n 0, 1) := by decide +kernel
theorem dX12_count_20 : decode cX12_count 20 = .ok (.getfield 9, 3) := by decide +kernel
theorem dX12_count_23 : decode cX12_count 23 = .ok (.iconst 0, 1) := by decide +kernel
theorem dX12_count_24 : decode cX12_count 24 = .ok (.iaload, 1) := by decide +kernel
theorem dX12_count_25 : decode cX12_count 25 = .ok (.invokestatic 235, 3) := by decide +kernel
theorem dX12_count_28 : decode cX12_count 28 = .ok (.ireturn, 1) := by decide +kernel
theorem dX12_count_29 : decode cX12_count 29 = .ok (.iload_n 1, 1) := by decide +kernel
theorem dX12_count_30 : decode cX12_count 30 = .ok (.i2l, 1) := by decide +kernel
theorem dX12_count_31 : decode cX12_count 31 = .ok (.ldc2_w 156, 3) := by decide +kernel
theorem dX12_count_34 : decode cX12_count 34 = .ok (.ldc2_w 306, 3) := by decide +kernel
theorem dX12_count_37 : decode cX12_count 37 = .ok (.invokestatic 65, 3) := by decide +kernel
theorem dX12_count_40 : decode cX12_count 40 = .ok (.ifCond .ne 5, 3) := by decide +kernel
theorem dX12_count_43 : decode cX12_count 43 = .ok (.iconst (-1), 1) := by decide +kernel
theorem dX12_count_44 : decode cX12_count 44 = .ok (.ireturn, 1) := by decide +kernel
theorem dX12_count_45 : decode cX12_count 45 = .ok (.iconst 0, 1) := by decide +kernel
theorem dX12_count_46 : decode cX12_count 46 = .ok (.istore_n 3, 1) := by decide +kernel
theorem dX12_count_47 : decode cX12_count 47 = .ok (.iload_n 3, 1) := by decide +kernel
theorem dX12_count_48 : decode cX12_count 48 = .ok (.aload_n 0, 1) := by decide +kernel
theorem dX12_count_49 : decode cX12_count 49 = .ok (.getfield 9, 3) := by decide +kernel
theorem dX12_count_52 : decode cX12_count 52 = .ok (.bipush 6, 2) := by decide +kernel
theorem dX12_count_54 : decode cX12_count 54 = .ok (.iaload, 1) := by decide +kernel
theorem dX12_count_55 : decode cX12_count 55 = .ok (.if_icmp .ge 85, 3) := by decide +kernel
theorem dX12_count_58 : decode cX12_count 58 = .ok (.iload_n 2, 1) := by decide +kernel
theorem dX12_count_59 : decode cX12_count 59 = .ok (.iload_n 1, 1) := by decide +kernel
theorem dX12_count_60 : decode cX12_count 60 = .ok (.iconst 5, 1) := by decide +kernel
theorem dX12_count_61 : decode cX12_count 61 = .ok (.if_icmp .ne 12, 3) := by decide +kernel
theorem dX12_count_64 : decode cX12_count 64 = .ok (.aload_n 0, 1) := by decide +kernel
theorem dX12_count_65 : decode cX12_count 65 = .ok (.iload_n 3, 1) := by decide +kernel
theorem dX12_count_66 : decode cX12_count 66 = .ok (.iconst 3, 1) := by decide +kernel
theorem dX12_count_67 : decode cX12_count 67 = .ok (.invokevirtual 136, 3) := by decide +kernel
theorem dX12_count_70 : decode cX12_count 70 = .ok (.goto 62, 3) := by decide +kernel
theorem dX12_count_73 : decode cX12_count 73 = .ok (.iload_n 1, 1) := by decide +kernel
theorem dX12_count_74 : decode cX12_count 74 = .ok (.iconst 2, 1) := by decide +kernel
theorem dX12_count_75 : decode cX12_count 75 = .ok (.if_icmp .ne 23, 3) := by decide +kernel
theorem dX12_count_78 : decode cX12_count 78 = .ok (.aload_n 0, 1) := by decide +kernel
theorem dX12_count_79 : decode cX12_count 79 = .ok (.iload_n 3, 1) := by decide +kernel
theorem dX12_count_80 : decode cX12_count 80 = .ok (.aload_n 0, 1) := by decide +kernel
theorem dX12_count_81 : decode cX12_count 81 = .ok (.getfield 9, 3) := by decide +kernel
theorem dX12_count_84 : decode cX12_count 84 = .ok (.iconst 0, 1) := by decide +kernel
theorem dX12_count_85 : decode cX12_count 85 = .ok (.iaload, 1) := by decide +kernel
theorem dX12_count_86 : decode cX12_count 86 = .ok (.aload_n 0, 1) := by decide +kernel
theorem dX12_count_87 : decode cX12_count 87 = .ok (.getfield 9, 3) := by decide +kernel
theorem dX12_count_90 : decode cX12_count 90 = .ok (.iconst 1, 1) := by decide +kernel
theorem dX12_count_91 : decode cX12_count 91 = .ok (.iaload, 1) := by decide +kernel
theorem dX12_count_92 : decode cX12_count 92 = .ok (.invokevirtual 162, 3) := by decide +kernel
theorem dX12_count_95 : decode cX12_count 95 = .ok (.ifCond .ne 32, 3) := by decide +kernel
theorem dX12_count_98 : decode cX12_count 98 = .ok (.iload_n 1, 1) := by decide +kernel
theorem dX12_count_99 : decode cX12_count 99 = .ok (.iconst 3, 1) := by decide +kernel
theorem dX12_count_100 : decode cX12_count 100 = .ok (.if_icmp .ne 11, 3) := by decide +kernel
theorem dX12_count_103 : decode cX12_count 103 = .ok (.aload_n 0, 1) := by decide +kernel
theorem dX12_count_104 : decode cX12_count 104 = .ok (.iload_n 3, 1) := by decide +kernel
theorem dX12_count_105 : decode cX12_count 105 = .ok (.invokevirtual 151, 3) := by decide +kernel
theorem dX12_count_108 : decode cX12_count 108 = .ok (.ifCond .ne 19, 3) := by decide +kernel
theorem dX12_count_111 : decode cX12_count 111 = .ok (.iload_n 1, 1) := by decide +kernel
theorem dX12_count_112 : decode cX12_count 112 = .ok (.iconst 4, 1) := by decide +kernel
theorem dX12_count_113 : decode cX12_count 113 = .ok (.if_icmp .ne 18, 3) := by decide +kernel
theorem dX12_count_116 : decode cX12_count 116 = .ok (.aload_n 0, 1) := by decide +kernel
theorem dX12_count_117 : decode cX12_count 117 = .ok (.iload_n 3, 1) := by decide +kernel
theorem dX12_count_118 : decode cX12_count 118 = .ok (.iconst 0, 1) := by decide +kernel
theorem dX12_count_119 : decode cX12_count 119 = .ok (.invokevirtual 136, 3) := by decide +kernel
theorem dX12_count_122 : decode cX12_count 122 = .ok (.bipush 6, 2) := by decide +kernel
theorem dX12_count_124 : decode cX12_count 124 = .ok (.if_icmp .ne 7, 3) := by decide +kernel
theorem dX12_count_127 : decode cX12_count 127 = .ok (.iconst 1, 1) := by decide +kernel
theorem dX12_count_128 : decode cX12_count 128 = .ok (.goto 4, 3) := by decide +kernel
theorem dX12_count_131 : decode cX12_count 131 = .ok (.iconst 0, 1) := by decide +kernel
theorem dX12_count_132 : decode cX12_count 132 = .ok (.iadd, 1) := by decide +kernel
theorem dX12_count_133 : decode cX12_count 133 = .ok (.istore_n 2, 1) := by decide +kernel
theorem dX12_count_134 : decode cX12_count 134 = .ok (.iinc 3 1, 3) := by decide +kernel
theorem dX12_count_137 : decode cX12_count 137 = .ok (.goto (-90), 3) := by decide +kernel
theorem dX12_count_140 : decode cX12_count 140 = .ok (.iload_n 2, 1) := by decide +kernel
theorem dX12_count_141 : decode cX12_count 141 = .ok (.ireturn, 1) := by decide +kernel
theorem dX12_careOf_0 : decode cX12_careOf 0 = .ok (.aload_n 0, 1) := by decide +kernel
theorem dX12_careOf_1 : decode cX12_careOf 1 = .ok (.iload_n 1, 1) := by decide +kernel
theorem dX12_careOf_2 : decode cX12_careOf 2 = .ok (.iconst 4, 1) := by decide +kernel
theorem dX12_careOf_3 : decode cX12_careOf 3 = .ok (.invokevirtual 136, 3) := by decide +kernel
theorem dX12_careOf_6 : decode cX12_careOf 6 = .ok (.istore_n 2, 1) := by decide +kernel
theorem dX12_careOf_7 : decode cX12_careOf 7 = .ok (.aload_n 0, 1) := by decide +kernel
theorem dX12_careOf_8 : decode cX12_careOf 8 = .ok (.iload_n 1, 1) := by decide +kernel
theorem dX12_careOf_9 : decode cX12_careOf 9 = .ok (.iconst 0, 1) := by decide +kernel
theorem dX12_careOf_10 : decode cX12_careOf 10 = .ok (.invokevirtual 136, 3) := by decide +kernel
theorem dX12_careOf_13 : decode cX12_careOf 13 = .ok (.tableswitch 76 1 7 #[43, 46, 55, 66, 68, 71, 74], 43) := by decide +kernel
theorem dX12_careOf_56 : decode cX12_careOf 56 = .ok (.bipush 12, 2) := by decide +kernel
theorem dX12_careOf_58 : decode cX12_careOf 58 = .ok (.ireturn, 1) := by decide +kernel
theorem dX12_careOf_59 : decode cX12_careOf 59 = .ok (.iconst 4, 1) := by decide +kernel
theorem dX12_careOf_60 : decode cX12_careOf 60 = .ok (.aload_n 0, 1) := by decide +kernel
theorem dX12_careOf_61 : decode cX12_careOf 61 = .ok (.iload_n 1, 1) := by decide +kernel
theorem dX12_careOf_62 : decode cX12_careOf 62 = .ok (.iconst 3, 1) := by decide +kernel
theorem dX12_careOf_63 : decode cX12_careOf 63 = .ok (.invokevirtual 136, 3) := by decide +kernel
theorem dX12_careOf_66 : decode cX12_careOf 66 = .ok (.iadd, 1) := by decide +kernel
theorem dX12_careOf_67 : decode cX12_careOf 67 = .ok (.ireturn, 1) := by decide +kernel
theorem dX12_careOf_68 : decode cX12_careOf 68 = .ok (.iconst 4, 1) := by decide +kernel
theorem dX12_careOf_69 : decode cX12_careOf 69 = .ok (.aload_n 0, 1) := by decide +kernel
theorem dX12_careOf_70 : decode cX12_careOf 70 = .ok (.iload_n 1, 1) := by decide +kernel
theorem dX12_careOf_71 : decode cX12_careOf 71 = .ok (.iconst 3, 1) := by decide +kernel
theorem dX12_careOf_72 : decode cX12_careOf 72 = .ok (.invokevirtual 136, 3) := by decide +kernel
theorem dX12_careOf_75 : decode cX12_careOf 75 = .ok (.iadd, 1) := by decide +kernel
theorem dX12_careOf_76 : decode cX12_careOf 76 = .ok (.iload_n 2, 1) := by decide +kernel
theorem dX12_careOf_77 : decode cX12_careOf 77 = .ok (.isub, 1) := by decide +kernel
theorem dX12_careOf_78 : decode cX12_careOf 78 = .ok (.ireturn, 1) := by decide +kernel
theorem dX12_careOf_79 : decode cX12_careOf 79 = .ok (.iconst 1, 1) := by decide +kernel
theorem dX12_careOf_80 : decode cX12_careOf 80 = .ok (.ireturn, 1) := by decide +kernel
theorem dX12_careOf_81 : decode cX12_careOf 81 = .ok (.bipush 13, 2) := by decide +kernel
theorem dX12_careOf_83 : decode cX12_careOf 83 = .ok (.ireturn, 1) := by decide +kernel
theorem dX12_careOf_84 : decode cX12_careOf 84 = .ok (.bipush 8, 2) := by decide +kernel
theorem dX12_careOf_86 : decode cX12_careOf 86 = .ok (.ireturn, 1) := by decide +kernel
theorem dX12_careOf_87 : decode cX12_careOf 87 = .ok (.iload_n 2, 1) := by decide +kernel
theorem dX12_careOf_88 : decode cX12_careOf 88 = .ok (.ireturn, 1) := by decide +kernel
theorem dX12_careOf_89 : decode cX12_careOf 89 = .ok (.iconst 4, 1) := by decide +kernel
theorem dX12_careOf_90 : decode cX12_careOf 90 = .ok (.ireturn, 1) := by decide +kernel
theorem dX12_keep_0 : decode cX12_keep 0 = .ok (.iload_n 1, 1) := by decide +kernel
theorem dX12_keep_1 : decode cX12_keep 1 = .ok (.invokestatic 123, 3) := by decide +kernel
theorem dX12_keep_4 : decode cX12_keep 4 = .ok (.ifCond .eq 26, 3) := by decide +kernel
theorem dX12_keep_7 : decode cX12_keep 7 = .ok (.iload_n 2, 1) := by decide +kernel
theorem dX12_keep_8 : decode cX12_keep 8 = .ok (.i2l, 1) := by decide +kernel
theorem dX12_keep_9 : decode cX12_keep 9 = .ok (.lconst 0, 1) := by decide +kernel
theorem dX12_keep_10 : decode cX12_keep 10 = .ok (.lconst 1, 1) := by decide +kernel
theorem dX12_keep_11 : decode cX12_keep 11 = .ok (.invokestatic 65, 3) := by decide +kernel
theorem dX12_keep_14 : decode cX12_keep 14 = .ok (.ifCond .eq 16, 3) := by decide +kernel
theorem dX12_keep_17 : decode cX12_keep 17 = .ok (.iload_n 2, 1) := by decide +kernel
theorem dX12_keep_18 : decode cX12_keep 18 = .ok (.iconst 1, 1) := by decide +kernel
theorem dX12_keep_19 : decode cX12_keep 19 = .ok (.if_icmp .ne 13, 3) := by decide +kernel
theorem dX12_keep_22 : decode cX12_keep 22 = .ok (.aload_n 0, 1) := by decide +kernel
theorem dX12_keep_23 : decode cX12_keep 23 = .ok (.iload_n 3, 1) := by decide +kernel
theorem dX12_keep_24 : decode cX12_keep 24 = .ok (.invokevirtual 143, 3) := by decide +kernel
theorem dX12_keep_27 : decode cX12_keep 27 = .ok (.ifCond .ne 5, 3) := by decide +kernel
theorem dX12_keep_30 : decode cX12_keep 30 = .ok (.iconst (-1), 1) := by decide +kernel
theorem dX12_keep_31 : decode cX12_keep 31 = .ok (.ireturn, 1) := by decide +kernel
theorem dX12_keep_32 : decode cX12_keep 32 = .ok (.aload_n 0, 1) := by decide +kernel
theorem dX12_keep_33 : decode cX12_keep 33 = .ok (.getfield 19, 3) := by decide +kernel
theorem dX12_keep_36 : decode cX12_keep 36 = .ok (.iload_n 1, 1) := by decide +kernel
theorem dX12_keep_37 : decode cX12_keep 37 = .ok (.iload_n 2, 1) := by decide +kernel
theorem dX12_keep_38 : decode cX12_keep 38 = .ok (.iastore, 1) := by decide +kernel
theorem dX12_keep_39 : decode cX12_keep 39 = .ok (.iload_n 2, 1) := by decide +kernel
theorem dX12_keep_40 : decode cX12_keep 40 = .ok (.ifCond .ne 5, 3) := by decide +kernel
theorem dX12_keep_43 : decode cX12_keep 43 = .ok (.iconst 0, 1) := by decide +kernel
theorem dX12_keep_44 : decode cX12_keep 44 = .ok (.ireturn, 1) := by decide +kernel
theorem dX12_keep_45 : decode cX12_keep 45 = .ok (.aload_n 0, 1) := by decide +kernel
theorem dX12_keep_46 : decode cX12_keep 46 = .ok (.iload_n 3, 1) := by decide +kernel
theorem dX12_keep_47 : decode cX12_keep 47 = .ok (.iconst 0, 1) := by decide +kernel
theorem dX12_keep_48 : decode cX12_keep 48 = .ok (.invokevirtual 136, 3) := by decide +kernel
theorem dX12_keep_51 : decode cX12_keep 51 = .ok (.istore 4, 2) := by decide +kernel
theorem dX12_keep_53 : decode cX12_keep 53 = .ok (.aload_n 0, 1) := by decide +kernel
theorem dX12_keep_54 : decode cX12_keep 54 = .ok (.getfield 31, 3) := by decide +kernel
theorem dX12_keep_57 : decode cX12_keep 57 = .ok (.iload_n 1, 1) := by decide +kernel
theorem dX12_keep_58 : decode cX12_keep 58 = .ok (.aload_n 0, 1) := by decide +kernel
theorem dX12_keep_59 : decode cX12_keep 59 = .ok (.iload_n 3, 1) := by decide +kernel
theorem dX12_keep_60 : decode cX12_keep 60 = .ok (.invokevirtual 308, 3) := by decide +kernel
theorem dX12_keep_63 : decode cX12_keep 63 = .ok (.iastore, 1) := by decide +kernel
theorem dX12_keep_64 : decode cX12_keep 64 = .ok (.aload_n 0, 1) := by decide +kernel
theorem dX12_keep_65 : decode cX12_keep 65 = .ok (.getfield 34, 3) := by decide +kernel
theorem dX12_keep_68 : decode cX12_keep 68 = .ok (.iload_n 1, 1) := by decide +kernel
theorem dX12_keep_69 : decode cX12_keep 69 = .ok (.iload 4, 2) := by decide +kernel
theorem dX12_keep_71 : decode cX12_keep 71 = .ok (.iconst 3, 1) := by decide +kernel
theorem dX12_keep_72 : decode cX12_keep 72 = .ok (.if_icmp .eq 12, 3) := by decide +kernel
theorem dX12_keep_75 : decode cX12_keep 75 = .ok (.aload_n 0, 1) := by decide +kernel
theorem dX12_keep_76 : decode cX12_keep 76 = .ok (.iload_n 3, 1) := by decide +kernel
theorem dX12_keep_77 : decode cX12_keep 77 = .ok (.iconst 4, 1) := by decide +kernel
theorem dX12_keep_78 : decode cX12_keep 78 = .ok (.invokevirtual 136, 3) := by decide +kernel
theorem dX12_keep_81 : decode cX12_keep 81 = .ok (.ifCond .ne 8, 3) := by decide +kernel
theorem dX12_keep_84 : decode cX12_keep 84 = .ok (.bipush (-15), 2) := by decide +kernel
theorem dX12_keep_86 : decode cX12_keep 86 = .ok (.goto 36, 3) := by decide +kernel
theorem dX12_keep_89 : decode cX12_keep 89 = .ok (.iload 4, 2) := by decide +kernel
theorem dX12_keep_91 : decode cX12_keep 91 = .ok (.iconst 5, 1) := by decide +kernel
theorem dX12_keep_92 : decode cX12_keep 92 = .ok (.if_icmp .ne 10, 3) := by decide +kernel
theorem dX12_keep_95 : decode cX12_keep 95 = .ok (.bipush 100, 2) := by decide +kernel
theorem dX12_keep_97 : decode cX12_keep 97 = .ok (.iload_n 3, 1) := by decide +kernel
theorem dX12_keep_98 : decode cX12_keep 98 = .ok (.iadd, 1) := by decide +kernel
theorem dX12_keep_99 : decode cX12_keep 99 = .ok (.goto 23, 3) := by decide +kernel
theorem dX12_keep_102 : decode cX12_keep 102 = .ok (.iload 4, 2) := by decide +kernel
theorem dX12_keep_104 : decode cX12_keep 104 = .ok (.bipush 7, 2) := by decide +kernel
theorem dX12_keep_106 : decode cX12_keep 106 = .ok (.if_icmp .ne 15, 3) := by decide +kernel
theorem dX12_keep_109 : decode cX12_keep 109 = .ok (.sipush 200, 3) := by decide +kernel
theorem dX12_keep_112 : decode cX12_keep 112 = .ok (.aload_n 0, 1) := by decide +kernel
theorem dX12_keep_113 : decode cX12_keep 113 = .ok (.iload_n 3, 1) := by decide +kernel
theorem dX12_keep_114 : decode cX12_keep 114 = .ok (.invokevirtual 308, 3) := by decide +kernel
theorem dX12_keep_117 : decode cX12_keep 117 = .ok (.iadd, 1) := by decide +kernel
theorem dX12_keep_118 : decode cX12_keep 118 = .ok (.goto 4, 3) := by decide +kernel
theorem dX12_keep_121 : decode cX12_keep 121 = .ok (.iload_n 3, 1) := by decide +kernel
theorem dX12_keep_122 : decode cX12_keep 122 = .ok (.iastore, 1) := by decide +kernel
theorem dX12_keep_123 : decode cX12_keep 123 = .ok (.iconst 0, 1) := by decide +kernel
theorem dX12_keep_124 : decode cX12_keep 124 = .ok (.ireturn, 1) := by decide +kernel
theorem dX12_row_0 : decode cX12_row 0 = .ok (.iload_n 1, 1) := by decide +kernel
theorem dX12_row_1 : decode cX12_row 1 = .ok (.invokestatic 123, 3) := by decide +kernel
theorem dX12_row_4 : decode cX12_row 4 = .ok (.ifCond .eq 21, 3) := by decide +kernel
theorem dX12_row_7 : decode cX12_row 7 = .ok (.iload_n 2, 1) := by decide +kernel
theorem dX12_row_8 : decode cX12_row 8 = .ok (.i2l, 1) := by decide +kernel
theorem dX12_row_9 : decode cX12_row 9 = .ok (.lconst 0, 1) := by decide +kernel
theorem dX12_row_10 : decode cX12_row 10 = .ok (.ldc2_w 156, 3) := by decide +kernel
theorem dX12_row_13 : decode cX12_row 13 = .ok (.invokestatic 65, 3) := by decide +kernel
theorem dX12_row_16 : decode cX12_row 16 = .ok (.ifCond .eq 9, 3) := by decide +kernel
theorem dX12_row_19 : decode cX12_row 19 = .ok (.iload_n 3, 1) := by decide +kernel
theorem dX12_row_20 : decode cX12_row 20 = .ok (.bipush 100, 2) := by decide +kernel
theorem dX12_row_22 : decode cX12_row 22 = .ok (.if_icmp .le 5, 3) := by decide +kernel
theorem dX12_row_25 : decode cX12_row 25 = .ok (.iconst (-1), 1) := by decide +kernel
theorem dX12_row_26 : decode cX12_row 26 = .ok (.ireturn, 1) := by decide +kernel
theorem dX12_row_27 : decode cX12_row 27 = .ok (.iload_n 3, 1) := by decide +kernel
theorem dX12_row_28 : decode cX12_row 28 = .ok (.ifCond .ge 6, 3) := by decide +kernel
theorem dX12_row_31 : decode cX12_row 31 = .ok (.bipush (-14), 2) := by decide +kernel
theorem dX12_row_33 : decode cX12_row 33 = .ok (.ireturn, 1) := by decide +kernel
theorem dX12_row_34 : decode cX12_row 34 = .ok (.aload_n 0, 1) := by decide +kernel
theorem dX12_row_35 : decode cX12_row 35 = .ok (.getfield 19, 3) := by decide +kernel
theorem dX12_row_38 : decode cX12_row 38 = .ok (.iload_n 1, 1) := by decide +kernel
theorem dX12_row_39 : decode cX12_row 39 = .ok (.iconst 2, 1) := by decide +kernel
theorem dX12_row_40 : decode cX12_row 40 = .ok (.iastore, 1) := by decide +kernel
theorem dX12_row_41 : decode cX12_row 41 = .ok (.aload_n 0, 1) := by decide +kernel
theorem dX12_row_42 : decode cX12_row 42 = .ok (.getfield 22, 3) := by decide +kernel
theorem dX12_row_45 : decode cX12_row 45 = .ok (.iload_n 1, 1) := by decide +kernel
theorem dX12_row_46 : decode cX12_row 46 = .ok (.iload_n 2, 1) := by decide +kernel
theorem dX12_row_47 : decode cX12_row 47 = .ok (.iastore, 1) := by decide +kernel
theorem dX12_row_48 : decode cX12_row 48 = .ok (.aload_n 0, 1) := by decide +kernel
theorem dX12_row_49 : decode cX12_row 49 = .ok (.getfield 25, 3) := by decide +kernel
theorem dX12_row_52 : decode cX12_row 52 = .ok (.iload_n 1, 1) := by decide +kernel
theorem dX12_row_53 : decode cX12_row 53 = .ok (.iload_n 3, 1) := by decide +kernel
theorem dX12_row_54 : decode cX12_row 54 = .ok (.iastore, 1) := by decide +kernel
theorem dX12_row_55 : decode cX12_row 55 = .ok (.iconst 0, 1) := by decide +kernel
theorem dX12_row_56 : decode cX12_row 56 = .ok (.istore 4, 2) := by decide +kernel
theorem dX12_row_58 : decode cX12_row 58 = .ok (.iload 4, 2) := by decide +kernel
theorem dX12_row_60 : decode cX12_row 60 = .ok (.bipush 100, 2) := by decide +kernel
theorem dX12_row_62 : decode cX12_row 62 = .ok (.if_icmp .ge 22, 3) := by decide +kernel
theorem dX12_row_65 : decode cX12_row 65 = .ok (.aload_n 0, 1) := by decide +kernel
theorem dX12_row_66 : decode cX12_row 66 = .ok (.getfield 28, 3) := by decide +kernel
theorem dX12_row_69 : decode cX12_row 69 = .ok (.bipush 100, 2) := by decide +kernel
theorem dX12_row_71 : decode cX12_row 71 = .ok (.iload_n 1, 1) := by decide +kernel
theorem dX12_row_72 : decode cX12_row 72 = .ok (.imul, 1) := by decide +kernel
theorem dX12_row_73 : decode cX12_row 73 = .ok (.iload 4, 2) := by decide +kernel
theorem dX12_row_75 : decode cX12_row 75 = .ok (.iadd, 1) := by decide +kernel
theorem dX12_row_76 : decode cX12_row 76 = .ok (.iconst 0, 1) := by decide +kernel
theorem dX12_row_77 : decode cX12_row 77 = .ok (.iastore, 1) := by decide +kernel
theorem dX12_row_78 : decode cX12_row 78 = .ok (.iinc 4 1, 3) := by decide +kernel
theorem dX12_row_81 : decode cX12_row 81 = .ok (.goto (-23), 3) := by decide +kernel
theorem dX12_row_84 : decode cX12_row 84 = .ok (.iconst 0, 1) := by decide +kernel
theorem dX12_row_85 : decode cX12_row 85 = .ok (.ireturn, 1) := by decide +kernel
theorem dX12_put_0 : decode cX12_put 0 = .ok (.aload_n 0, 1) := by decide +kernel
theorem dX12_put_1 : decode cX12_put 1 = .ok (.iload_n 1, 1) := by decide +kernel
theorem dX12_put_2 : decode cX12_put 2 = .ok (.iconst (-1), 1) := by decide +kernel
theorem dX12_put_3 : decode cX12_put 3 = .ok (.invokevirtual 126, 3) := by decide +kernel
theorem dX12_put_6 : decode cX12_put 6 = .ok (.istore 4, 2) := by decide +kernel
theorem dX12_put_8 : decode cX12_put 8 = .ok (.iload 4, 2) := by decide +kernel
theorem dX12_put_10 : decode cX12_put 10 = .ok (.ifCond .eq 6, 3) := by decide +kernel
theorem dX12_put_13 : decode cX12_put 13 = .ok (.iload 4, 2) := by decide +kernel
theorem dX12_put_15 : decode cX12_put 15 = .ok (.ireturn, 1) := by decide +kernel
theorem dX12_put_16 : decode cX12_put 16 = .ok (.iload_n 2, 1) := by decide +kernel
theorem dX12_put_17 : decode cX12_put 17 = .ok (.i2l, 1) := by decide +kernel
theorem dX12_put_18 : decode cX12_put 18 = .ok (.lconst 0, 1) := by decide +kernel
theorem dX12_put_19 : decode cX12_put 19 = .ok (.aload_n 0, 1) := by decide +kernel
theorem dX12_put_20 : decode cX12_put 20 = .ok (.getfield 25, 3) := by decide +kernel
theorem dX12_put_23 : decode cX12_put 23 = .ok (.iload_n 1, 1) := by decide +kernel
theorem dX12_put_24 : decode cX12_put 24 = .ok (.iaload, 1) := by decide +kernel
theorem dX12_put_25 : decode cX12_put 25 = .ok (.iconst 1, 1) := by decide +kernel
theorem dX12_put_26 : decode cX12_put 26 = .ok (.isub, 1) := by decide +kernel
theorem dX12_put_27 : decode cX12_put 27 = .ok (.i2l, 1) := by decide +kernel
theorem dX12_put_28 : decode cX12_put 28 = .ok (.invokestatic 65, 3) := by decide +kernel
theorem dX12_put_31 : decode cX12_put 31 = .ok (.ifCond .ne 6, 3) := by decide +kernel
theorem dX12_put_34 : decode cX12_put 34 = .ok (.bipush (-13), 2) := by decide +kernel
theorem dX12_put_36 : decode cX12_put 36 = .ok (.ireturn, 1) := by decide +kernel
theorem dX12_put_37 : decode cX12_put 37 = .ok (.aload_n 0, 1) := by decide +kernel
theorem dX12_put_38 : decode cX12_put 38 = .ok (.getfield 28, 3) := by decide +kernel
theorem dX12_put_41 : decode cX12_put 41 = .ok (.bipush 100, 2) := by decide +kernel
theorem dX12_put_43 : decode cX12_put 43 = .ok (.iload_n 1, 1) := by decide +kernel
theorem dX12_put_44 : decode cX12_put 44 = .ok (.imul, 1) := by decide +kernel
theorem dX12_put_45 : decode cX12_put 45 = .ok (.iload_n 2, 1) := by decide +kernel
theorem dX12_put_46 : decode cX12_put 46 = .ok (.iadd, 1) := by decide +kernel
theorem dX12_put_47 : decode cX12_put 47 = .ok (.aload_n 0, 1) := by decide +kernel
theorem dX12_put_48 : decode cX12_put 48 = .ok (.getfield 22, 3) := by decide +kernel
theorem dX12_put_51 : decode cX12_put 51 = .ok (.iload_n 1, 1) := by decide +kernel
theorem dX12_put_52 : decode cX12_put 52 = .ok (.iaload, 1) := by decide +kernel
theorem dX12_put_53 : decode cX12_put 53 = .ok (.ifCond .ne 8, 3) := by decide +kernel
theorem dX12_put_56 : decode cX12_put 56 = .ok (.iload_n 3, 1) := by decide +kernel
theorem dX12_put_57 : decode cX12_put 57 = .ok (.i2b, 1) := by decide +kernel
theorem dX12_put_58 : decode cX12_put 58 = .ok (.goto 19, 3) := by decide +kernel
theorem dX12_put_61 : decode cX12_put 61 = .ok (.aload_n 0, 1) := by decide +kernel
theorem dX12_put_62 : decode cX12_put 62 = .ok (.getfield 22, 3) := by decide +kernel
theorem dX12_put_65 : decode cX12_put 65 = .ok (.iload_n 1, 1) := by decide +kernel
theorem dX12_put_66 : decode cX12_put 66 = .ok (.iaload, 1) := by decide +kernel
theorem dX12_put_67 : decode cX12_put 67 = .ok (.iconst 1, 1) := by decide +kernel
theorem dX12_put_68 : decode cX12_put 68 = .ok (.if_icmp .ne 8, 3) := by decide +kernel
theorem dX12_put_71 : decode cX12_put 71 = .ok (.iload_n 3, 1) := by decide +kernel
theorem dX12_put_72 : decode cX12_put 72 = .ok (.i2s, 1) := by decide +kernel
theorem dX12_put_73 : decode cX12_put 73 = .ok (.goto 4, 3) := by decide +kernel
theorem dX12_put_76 : decode cX12_put 76 = .ok (.iload_n 3, 1) := by decide +kernel
theorem dX12_put_77 : decode cX12_put 77 = .ok (.iastore, 1) := by decide +kernel
theorem dX12_put_78 : decode cX12_put 78 = .ok (.iconst 0, 1) := by decide +kernel
theorem dX12_put_79 : decode cX12_put 79 = .ok (.ireturn, 1) := by decide +kernel
theorem dX12_element_0 : decode cX12_element 0 = .ok (.aload_n 0, 1) := by decide +kernel
theorem dX12_element_1 : decode cX12_element 1 = .ok (.iload_n 1, 1) := by decide +kernel
theorem dX12_element_2 : decode cX12_element 2 = .ok (.invokestatic 123, 3) := by decide +kernel
theorem dX12_element_5 : decode cX12_element 5 = .ok (.ifCond .ne 7, 3) := by decide +kernel
theorem dX12_element_8 : decode cX12_element 8 = .ok (.iconst 1, 1) := by decide +kernel
theorem dX12_element_9 : decode cX12_element 9 = .ok (.goto 36, 3) := by decide +kernel
theorem dX12_element_12 : decode cX12_element 12 = .ok (.aload_n 0, 1) := by decide +kernel
theorem dX12_element_13 : decode cX12_element 13 = .ok (.getfield 19, 3) := by decide +kernel
theorem dX12_element_16 : decode cX12_element 16 = .ok (.iload_n 1, 1) := by decide +kernel
theorem dX12_element_17 : decode cX12_element 17 = .ok (.iaload, 1) := by decide +kernel
theorem dX12_element_18 : decode cX12_element 18 = .ok (.iconst 2, 1) := by decide +kernel
theorem dX12_element_19 : decode cX12_element 19 = .ok (.if_icmp .ne 21, 3) := by decide +kernel
theorem dX12_element_22 : decode cX12_element 22 = .ok (.iload_n 2, 1) := by decide +kernel
theorem dX12_element_23 : decode cX12_element 23 = .ok (.i2l, 1) := by decide +kernel
theorem dX12_element_24 : decode cX12_element 24 = .ok (.lconst 0, 1) := by decide +kernel
theorem dX12_element_25 : decode cX12_element 25 = .ok (.aload_n 0, 1) := by decide +kernel
theorem dX12_element_26 : decode cX12_element 26 = .ok (.getfield 25, 3) := by decide +kernel
theorem dX12_element_29 : decode cX12_element 29 = .ok (.iload_n 1, 1) := by decide +kernel
theorem dX12_element_30 : decode cX12_element 30 = .ok (.iaload, 1) := by decide +kernel
theorem dX12_element_31 : decode cX12_element 31 = .ok (.iconst 1, 1) := by decide +kernel
theorem dX12_element_32 : decode cX12_element 32 = .ok (.isub, 1) := by decide +kernel
theorem dX12_element_33 : decode cX12_element 33 = .ok (.i2l, 1) := by decide +kernel
theorem dX12_element_34 : decode cX12_element 34 = .ok (.invokestatic 65, 3) := by decide +kernel
theorem dX12_element_37 : decode cX12_element 37 = .ok (.ifCond .ne 7, 3) := by decide +kernel
theorem dX12_element_40 : decode cX12_element 40 = .ok (.iconst 2, 1) := by decide +kernel
theorem dX12_element_41 : decode cX12_element 41 = .ok (.goto 4, 3) := by decide +kernel
theorem dX12_element_44 : decode cX12_element 44 = .ok (.iconst 0, 1) := by decide +kernel
theorem dX12_element_45 : decode cX12_element 45 = .ok (.putfield 61, 3) := by decide +kernel
theorem dX12_element_48 : decode cX12_element 48 = .ok (.aload_n 0, 1) := by decide +kernel
theorem dX12_element_49 : decode cX12_element 49 = .ok (.getfield 61, 3) := by decide +kernel
theorem dX12_element_52 : decode cX12_element 52 = .ok (.ifCond .ne 18, 3) := by decide +kernel
theorem dX12_element_55 : decode cX12_element 55 = .ok (.aload_n 0, 1) := by decide +kernel
theorem dX12_element_56 : decode cX12_element 56 = .ok (.getfield 28, 3) := by decide +kernel
theorem dX12_element_59 : decode cX12_element 59 = .ok (.bipush 100, 2) := by decide +kernel
theorem dX12_element_61 : decode cX12_element 61 = .ok (.iload_n 1, 1) := by decide +kernel
theorem dX12_element_62 : decode cX12_element 62 = .ok (.imul, 1) := by decide +kernel
theorem dX12_element_63 : decode cX12_element 63 = .ok (.iload_n 2, 1) := by decide +kernel
theorem dX12_element_64 : decode cX12_element 64 = .ok (.iadd, 1) := by decide +kernel
theorem dX12_element_65 : decode cX12_element 65 = .ok (.iaload, 1) := by decide +kernel
theorem dX12_element_66 : decode cX12_element 66 = .ok (.i2l, 1) := by decide +kernel
theorem dX12_element_67 : decode cX12_element 67 = .ok (.goto 4, 3) := by decide +kernel
theorem dX12_element_70 : decode cX12_element 70 = .ok (.lconst 0, 1) := by decide +kernel
theorem dX12_element_71 : decode cX12_element 71 = .ok (.lreturn, 1) := by decide +kernel
theorem dX12_copy_0 : decode cX12_copy 0 = .ok (.iload_n 1, 1) := by decide +kernel
theorem dX12_copy_1 : decode cX12_copy 1 = .ok (.invokestatic 123, 3) := by decide +kernel
theorem dX12_copy_4 : decode cX12_copy 4 = .ok (.ifCond .eq 10, 3) := by decide +kernel
theorem dX12_copy_7 : decode cX12_copy 7 = .ok (.iload_n 3, 1) := by decide +kernel
theorem dX12_copy_8 : decode cX12_copy 8 = .ok (.invokestatic 123, 3) := by decide +kernel
theorem dX12_copy_11 : decode cX12_copy 11 = .ok (.ifCond .ne 5, 3) := by decide +kernel
theorem dX12_copy_14 : decode cX12_copy 14 = .ok (.iconst (-1), 1) := by decide +kernel
theorem dX12_copy_15 : decode cX12_copy 15 = .ok (.ireturn, 1) := by decide +kernel
theorem dX12_copy_16 : decode cX12_copy 16 = .ok (.aload_n 0, 1) := by decide +kernel
theorem dX12_copy_17 : decode cX12_copy 17 = .ok (.getfield 19, 3) := by decide +kernel
theorem dX12_copy_20 : decode cX12_copy 20 = .ok (.iload_n 1, 1) := by decide +kernel
theorem dX12_copy_21 : decode cX12_copy 21 = .ok (.iaload, 1) := by decide +kernel
theorem dX12_copy_22 : decode cX12_copy 22 = .ok (.ifCond .eq 12, 3) := by decide +kernel
theorem dX12_copy_25 : decode cX12_copy 25 = .ok (.aload_n 0, 1) := by decide +kernel
theorem dX12_copy_26 : decode cX12_copy 26 = .ok (.getfield 19, 3) := by decide +kernel
theorem dX12_copy_29 : decode cX12_copy 29 = .ok (.iload_n 3, 1) := by decide +kernel
theorem dX12_copy_30 : decode cX12_copy 30 = .ok (.iaload, 1) := by decide +kernel
theorem dX12_copy_31 : decode cX12_copy 31 = .ok (.ifCond .ne 6, 3) := by decide +kernel
theorem dX12_copy_34 : decode cX12_copy 34 = .ok (.bipush (-11), 2) := by decide +kernel
theorem dX12_copy_36 : decode cX12_copy 36 = .ok (.ireturn, 1) := by decide +kernel
theorem dX12_copy_37 : decode cX12_copy 37 = .ok (.aload_n 0, 1) := by decide +kernel
theorem dX12_copy_38 : decode cX12_copy 38 = .ok (.getfield 19, 3) := by decide +kernel
theorem dX12_copy_41 : decode cX12_copy 41 = .ok (.iload_n 1, 1) := by decide +kernel
theorem dX12_copy_42 : decode cX12_copy 42 = .ok (.iaload, 1) := by decide +kernel
theorem dX12_copy_43 : decode cX12_copy 43 = .ok (.iconst 2, 1) := by decide +kernel
theorem dX12_copy_44 : decode cX12_copy 44 = .ok (.if_icmp .ne 28, 3) := by decide +kernel
theorem dX12_copy_47 : decode cX12_copy 47 = .ok (.aload_n 0, 1) := by decide +kernel
theorem dX12_copy_48 : decode cX12_copy 48 = .ok (.getfield 19, 3) := by decide +kernel
theorem dX12_copy_51 : decode cX12_copy 51 = .ok (.iload_n 3, 1) := by decide +kernel
theorem dX12_copy_52 : decode cX12_copy 52 = .ok (.iaload, 1) := by decide +kernel
theorem dX12_copy_53 : decode cX12_copy 53 = .ok (.iconst 2, 1) := by decide +kernel
theorem dX12_copy_54 : decode cX12_copy 54 = .ok (.if_icmp .ne 18, 3) := by decide +kernel
theorem dX12_copy_57 : decode cX12_copy 57 = .ok (.aload_n 0, 1) := by decide +kernel
theorem dX12_copy_58 : decode cX12_copy 58 = .ok (.getfield 22, 3) := by decide +kernel
theorem dX12_copy_61 : decode cX12_copy 61 = .ok (.iload_n 1, 1) := by decide +kernel
theorem dX12_copy_62 : decode cX12_copy 62 = .ok (.iaload, 1) := by decide +kernel
theorem dX12_copy_63 : decode cX12_copy 63 = .ok (.aload_n 0, 1) := by decide +kernel
theorem dX12_copy_64 : decode cX12_copy 64 = .ok (.getfield 22, 3) := by decide +kernel
theorem dX12_copy_67 : decode cX12_copy 67 = .ok (.iload_n 3, 1) := by decide +kernel
theorem dX12_copy_68 : decode cX12_copy 68 = .ok (.iaload, 1) := by decide +kernel
theorem dX12_copy_69 : decode cX12_copy 69 = .ok (.if_icmp .eq 6, 3) := by decide +kernel
theorem dX12_copy_72 : decode cX12_copy 72 = .ok (.bipush (-12), 2) := by decide +kernel
theorem dX12_copy_74 : decode cX12_copy 74 = .ok (.ireturn, 1) := by decide +kernel
theorem dX12_copy_75 : decode cX12_copy 75 = .ok (.iload 5, 2) := by decide +kernel
theorem dX12_copy_77 : decode cX12_copy 77 = .ok (.ifCond .lt 39, 3) := by decide +kernel
theorem dX12_copy_80 : decode cX12_copy 80 = .ok (.iload_n 2, 1) := by decide +kernel
theorem dX12_copy_81 : decode cX12_copy 81 = .ok (.ifCond .lt 35, 3) := by decide +kernel
theorem dX12_copy_84 : decode cX12_copy 84 = .ok (.iload 4, 2) := by decide +kernel
theorem dX12_copy_86 : decode cX12_copy 86 = .ok (.ifCond .lt 30, 3) := by decide +kernel
theorem dX12_copy_89 : decode cX12_copy 89 = .ok (.iload 5, 2) := by decide +kernel
theorem dX12_copy_91 : decode cX12_copy 91 = .ok (.aload_n 0, 1) := by decide +kernel
theorem dX12_copy_92 : decode cX12_copy 92 = .ok (.getfield 25, 3) := by decide +kernel
theorem dX12_copy_95 : decode cX12_copy 95 = .ok (.iload_n 1, 1) := by decide +kernel
theorem dX12_copy_96 : decode cX12_copy 96 = .ok (.iaload, 1) := by decide +kernel
theorem dX12_copy_97 : decode cX12_copy 97 = .ok (.iload_n 2, 1) := by decide +kernel
theorem dX12_copy_98 : decode cX12_copy 98 = .ok (.isub, 1) := by decide +kernel
theorem dX12_copy_99 : decode cX12_copy 99 = .ok (.if_icmp .gt 17, 3) := by decide +kernel
theorem dX12_copy_102 : decode cX12_copy 102 = .ok (.iload 5, 2) := by decide +kernel
theorem dX12_copy_104 : decode cX12_copy 104 = .ok (.aload_n 0, 1) := by decide +kernel
theorem dX12_copy_105 : decode cX12_copy 105 = .ok (.getfield 25, 3) := by decide +kernel
theorem dX12_copy_108 : decode cX12_copy 108 = .ok (.iload_n 3, 1) := by decide +kernel
theorem dX12_copy_109 : decode cX12_copy 109 = .ok (.iaload, 1) := by decide +kernel
theorem dX12_copy_110 : decode cX12_copy 110 = .ok (.iload 4, 2) := by decide +kernel
theorem dX12_copy_112 : decode cX12_copy 112 = .ok (.isub, 1) := by decide +kernel
theorem dX12_copy_113 : decode cX12_copy 113 = .ok (.if_icmp .le 6, 3) := by decide +kernel
theorem dX12_copy_116 : decode cX12_copy 116 = .ok (.bipush (-13), 2) := by decide +kernel
theorem dX12_copy_118 : decode cX12_copy 118 = .ok (.ireturn, 1) := by decide +kernel
theorem dX12_copy_119 : decode cX12_copy 119 = .ok (.iconst 0, 1) := by decide +kernel
theorem dX12_copy_120 : decode cX12_copy 120 = .ok (.istore 6, 2) := by decide +kernel
theorem dX12_copy_122 : decode cX12_copy 122 = .ok (.iload 6, 2) := by decide +kernel
theorem dX12_copy_124 : decode cX12_copy 124 = .ok (.iload 5, 2) := by decide +kernel
theorem dX12_copy_126 : decode cX12_copy 126 = .ok (.if_icmp .ge 58, 3) := by decide +kernel
theorem dX12_copy_129 : decode cX12_copy 129 = .ok (.iload_n 2, 1) := by decide +kernel
theorem dX12_copy_130 : decode cX12_copy 130 = .ok (.iload 4, 2) := by decide +kernel
theorem dX12_copy_132 : decode cX12_copy 132 = .ok (.if_icmp .le 8, 3) := by decide +kernel
theorem dX12_copy_135 : decode cX12_copy 135 = .ok (.iload 6, 2) := by decide +kernel
theorem dX12_copy_137 : decode cX12_copy 137 = .ok (.goto 10, 3) := by decide +kernel
theorem dX12_copy_140 : decode cX12_copy 140 = .ok (.iload 5, 2) := by decide +kernel
theorem dX12_copy_142 : decode cX12_copy 142 = .ok (.iconst 1, 1) := by decide +kernel
theorem dX12_copy_143 : decode cX12_copy 143 = .ok (.isub, 1) := by decide +kernel
theorem dX12_copy_144 : decode cX12_copy 144 = .ok (.iload 6, 2) := by decide +kernel
theorem dX12_copy_146 : decode cX12_copy 146 = .ok (.isub, 1) := by decide +kernel
theorem dX12_copy_147 : decode cX12_copy 147 = .ok (.istore 7, 2) := by decide +kernel
theorem dX12_copy_149 : decode cX12_copy 149 = .ok (.aload_n 0, 1) := by decide +kernel
theorem dX12_copy_150 : decode cX12_copy 150 = .ok (.getfield 28, 3) := by decide +kernel
theorem dX12_copy_153 : decode cX12_copy 153 = .ok (.bipush 100, 2) := by decide +kernel
theorem dX12_copy_155 : decode cX12_copy 155 = .ok (.iload_n 3, 1) := by decide +kernel
theorem dX12_copy_156 : decode cX12_copy 156 = .ok (.imul, 1) := by decide +kernel
theorem dX12_copy_157 : decode cX12_copy 157 = .ok (.iload 4, 2) := by decide +kernel
theorem dX12_copy_159 : decode cX12_copy 159 = .ok (.iadd, 1) := by decide +kernel
theorem dX12_copy_160 : decode cX12_copy 160 = .ok (.iload 7, 2) := by decide +kernel
theorem dX12_copy_162 : decode cX12_copy 162 = .ok (.iadd, 1) := by decide +kernel
theorem dX12_copy_163 : decode cX12_copy 163 = .ok (.aload_n 0, 1) := by decide +kernel
theorem dX12_copy_164 : decode cX12_copy 164 = .ok (.getfield 28, 3) := by decide +kernel
theorem dX12_copy_167 : decode cX12_copy 167 = .ok (.bipush 100, 2) := by decide +kernel
theorem dX12_copy_169 : decode cX12_copy 169 = .ok (.iload_n 1, 1) := by decide +kernel
theorem dX12_copy_170 : decode cX12_copy 170 = .ok (.imul, 1) := by decide +kernel
theorem dX12_copy_171 : decode cX12_copy 171 = .ok (.iload_n 2, 1) := by decide +kernel
theorem dX12_copy_172 : decode cX12_copy 172 = .ok (.iadd, 1) := by decide +kernel
theorem dX12_copy_173 : decode cX12_copy 173 = .ok (.iload 7, 2) := by decide +kernel
theorem dX12_copy_175 : decode cX12_copy 175 = .ok (.iadd, 1) := by decide +kernel
theorem dX12_copy_176 : decode cX12_copy 176 = .ok (.iaload, 1) := by decide +kernel
theorem dX12_copy_177 : decode cX12_copy 177 = .ok (.iastore, 1) := by decide +kernel
theorem dX12_copy_178 : decode cX12_copy 178 = .ok (.iinc 6 1, 3) := by decide +kernel
theorem dX12_copy_181 : decode cX12_copy 181 = .ok (.goto (-59), 3) := by decide +kernel
theorem dX12_copy_184 : decode cX12_copy 184 = .ok (.iload 5, 2) := by decide +kernel
theorem dX12_copy_186 : decode cX12_copy 186 = .ok (.ireturn, 1) := by decide +kernel
theorem dX12_wrongKept_0 : decode cX12_wrongKept 0 = .ok (.iload_n 1, 1) := by decide +kernel
theorem dX12_wrongKept_1 : decode cX12_wrongKept 1 = .ok (.invokestatic 123, 3) := by decide +kernel
theorem dX12_wrongKept_4 : decode cX12_wrongKept 4 = .ok (.ifCond .ne 7, 3) := by decide +kernel
theorem dX12_wrongKept_7 : decode cX12_wrongKept 7 = .ok (.iconst (-1), 1) := by decide +kernel
theorem dX12_wrongKept_8 : decode cX12_wrongKept 8 = .ok (.goto 33, 3) := by decide +kernel
theorem dX12_wrongKept_11 : decode cX12_wrongKept 11 = .ok (.aload_n 0, 1) := by decide +kernel
theorem dX12_wrongKept_12 : decode cX12_wrongKept 12 = .ok (.getfield 19, 3) := by decide +kernel
theorem dX12_wrongKept_15 : decode cX12_wrongKept 15 = .ok (.iload_n 1, 1) := by decide +kernel
theorem dX12_wrongKept_16 : decode cX12_wrongKept 16 = .ok (.iaload, 1) := by decide +kernel
theorem dX12_wrongKept_17 : decode cX12_wrongKept 17 = .ok (.ifCond .ne 8, 3) := by decide +kernel
theorem dX12_wrongKept_20 : decode cX12_wrongKept 20 = .ok (.bipush (-11), 2) := by decide +kernel
theorem dX12_wrongKept_22 : decode cX12_wrongKept 22 = .ok (.goto 19, 3) := by decide +kernel
theorem dX12_wrongKept_25 : decode cX12_wrongKept 25 = .ok (.aload_n 0, 1) := by decide +kernel
theorem dX12_wrongKept_26 : decode cX12_wrongKept 26 = .ok (.getfield 19, 3) := by decide +kernel
theorem dX12_wrongKept_29 : decode cX12_wrongKept 29 = .ok (.iload_n 1, 1) := by decide +kernel
theorem dX12_wrongKept_30 : decode cX12_wrongKept 30 = .ok (.iaload, 1) := by decide +kernel
theorem dX12_wrongKept_31 : decode cX12_wrongKept 31 = .ok (.iconst 1, 1) := by decide +kernel
theorem dX12_wrongKept_32 : decode cX12_wrongKept 32 = .ok (.if_icmp .ne 7, 3) := by decide +kernel
theorem dX12_wrongKept_35 : decode cX12_wrongKept 35 = .ok (.iconst 0, 1) := by decide +kernel
theorem dX12_wrongKept_36 : decode cX12_wrongKept 36 = .ok (.goto 5, 3) := by decide +kernel
theorem dX12_wrongKept_39 : decode cX12_wrongKept 39 = .ok (.bipush (-12), 2) := by decide +kernel
theorem dX12_wrongKept_41 : decode cX12_wrongKept 41 = .ok (.ireturn, 1) := by decide +kernel
theorem dX12_care_0 : decode cX12_care 0 = .ok (.aload_n 0, 1) := by decide +kernel
theorem dX12_care_1 : decode cX12_care 1 = .ok (.iload_n 1, 1) := by decide +kernel
theorem dX12_care_2 : decode cX12_care 2 = .ok (.invokevirtual 311, 3) := by decide +kernel
theorem dX12_care_5 : decode cX12_care 5 = .ok (.istore_n 2, 1) := by decide +kernel
theorem dX12_care_6 : decode cX12_care 6 = .ok (.iload_n 2, 1) := by decide +kernel
theorem dX12_care_7 : decode cX12_care 7 = .ok (.ifCond .eq 7, 3) := by decide +kernel
theorem dX12_care_10 : decode cX12_care 10 = .ok (.iload_n 2, 1) := by decide +kernel
theorem dX12_care_11 : decode cX12_care 11 = .ok (.goto 9, 3) := by decide +kernel
theorem dX12_care_14 : decode cX12_care 14 = .ok (.aload_n 0, 1) := by decide +kernel
theorem dX12_care_15 : decode cX12_care 15 = .ok (.getfield 31, 3) := by decide +kernel
theorem dX12_care_18 : decode cX12_care 18 = .ok (.iload_n 1, 1) := by decide +kernel
theorem dX12_care_19 : decode cX12_care 19 = .ok (.iaload, 1) := by decide +kernel
theorem dX12_care_20 : decode cX12_care 20 = .ok (.ireturn, 1) := by decide +kernel
theorem dX12_toss_0 : decode cX12_toss 0 = .ok (.aload_n 0, 1) := by decide +kernel
theorem dX12_toss_1 : decode cX12_toss 1 = .ok (.iload_n 1, 1) := by decide +kernel
theorem dX12_toss_2 : decode cX12_toss 2 = .ok (.invokevirtual 311, 3) := by decide +kernel
theorem dX12_toss_5 : decode cX12_toss 5 = .ok (.istore_n 2, 1) := by decide +kernel
theorem dX12_toss_6 : decode cX12_toss 6 = .ok (.iload_n 2, 1) := by decide +kernel
theorem dX12_toss_7 : decode cX12_toss 7 = .ok (.ifCond .eq 7, 3) := by decide +kernel
theorem dX12_toss_10 : decode cX12_toss 10 = .ok (.iload_n 2, 1) := by decide +kernel
theorem dX12_toss_11 : decode cX12_toss 11 = .ok (.goto 9, 3) := by decide +kernel
theorem dX12_toss_14 : decode cX12_toss 14 = .ok (.aload_n 0, 1) := by decide +kernel
theorem dX12_toss_15 : decode cX12_toss 15 = .ok (.getfield 34, 3) := by decide +kernel
theorem dX12_toss_18 : decode cX12_toss 18 = .ok (.iload_n 1, 1) := by decide +kernel
theorem dX12_toss_19 : decode cX12_toss 19 = .ok (.iaload, 1) := by decide +kernel
theorem dX12_toss_20 : decode cX12_toss 20 = .ok (.ireturn, 1) := by decide +kernel
end
section
theorem dL_element_0 : decode cL_element 0 = .ok (.aload_n 3, 1) := by decide +kernel
theorem dL_element_1 : decode cL_element 1 = .ok (.iconst 0, 1) := by decide +kernel
theorem dL_element_2 : decode cL_element 2 = .ok (.aload_n 0, 1) := by decide +kernel
theorem dL_element_3 : decode cL_element 3 = .ok (.iload_n 1, 1) := by decide +kernel
theorem dL_element_4 : decode cL_element 4 = .ok (.iload_n 2, 1) := by decide +kernel
theorem dL_element_5 : decode cL_element 5 = .ok (.invokevirtual 7, 3) := by decide +kernel
theorem dL_element_8 : decode cL_element 8 = .ok (.lastore, 1) := by decide +kernel
theorem dL_element_9 : decode cL_element 9 = .ok (.goto 11, 3) := by decide +kernel
theorem dL_element_12 : decode cL_element 12 = .ok (.astore 4, 2) := by decide +kernel
theorem dL_element_14 : decode cL_element 14 = .ok (.iconst 1, 1) := by decide +kernel
theorem dL_element_15 : decode cL_element 15 = .ok (.ireturn, 1) := by decide +kernel
theorem dL_element_16 : decode cL_element 16 = .ok (.astore 4, 2) := by decide +kernel
theorem dL_element_18 : decode cL_element 18 = .ok (.iconst 2, 1) := by decide +kernel
theorem dL_element_19 : decode cL_element 19 = .ok (.ireturn, 1) := by decide +kernel
theorem dL_element_20 : decode cL_element 20 = .ok (.iconst 0, 1) := by decide +kernel
theorem dL_element_21 : decode cL_element 21 = .ok (.ireturn, 1) := by decide +kernel
theorem dL_law_0 : decode cL_law 0 = .ok (.new 8, 3) := by decide +kernel
theorem dL_law_3 : decode cL_law 3 = .ok (.dup, 1) := by decide +kernel
theorem dL_law_4 : decode cL_law 4 = .ok (.invokespecial 17, 3) := by decide +kernel
theorem dL_law_7 : decode cL_law 7 = .ok (.astore_n 1, 1) := by decide +kernel
theorem dL_law_8 : decode cL_law 8 = .ok (.new 18, 3) := by decide +kernel
theorem dL_law_11 : decode cL_law 11 = .ok (.dup, 1) := by decide +kernel
theorem dL_law_12 : decode cL_law 12 = .ok (.invokespecial 20, 3) := by decide +kernel
theorem dL_law_15 : decode cL_law 15 = .ok (.astore_n 2, 1) := by decide +kernel
theorem dL_law_16 : decode cL_law 16 = .ok (.iconst 1, 1) := by decide +kernel
theorem dL_law_17 : decode cL_law 17 = .ok (.newarray .long, 2) := by decide +kernel
theorem dL_law_19 : decode cL_law 19 = .ok (.astore_n 3, 1) := by decide +kernel
theorem dL_law_20 : decode cL_law 20 = .ok (.iconst 0, 1) := by decide +kernel
theorem dL_law_21 : decode cL_law 21 = .ok (.istore 4, 2) := by decide +kernel
theorem dL_law_23 : decode cL_law 23 = .ok (.iload 4, 2) := by decide +kernel
theorem dL_law_25 : decode cL_law 25 = .ok (.aload_n 0, 1) := by decide +kernel
theorem dL_law_26 : decode cL_law 26 = .ok (.arraylength, 1) := by decide +kernel
theorem dL_law_27 : decode cL_law 27 = .ok (.bipush 6, 2) := by decide +kernel
theorem dL_law_29 : decode cL_law 29 = .ok (.isub, 1) := by decide +kernel
theorem dL_law_30 : decode cL_law 30 = .ok (.if_icmp .gt 1367, 3) := by decide +kernel
theorem dL_law_33 : decode cL_law 33 = .ok (.aload_n 0, 1) := by decide +kernel
theorem dL_law_34 : decode cL_law 34 = .ok (.iload 4, 2) := by decide +kernel
theorem dL_law_36 : decode cL_law 36 = .ok (.iaload, 1) := by decide +kernel
theorem dL_law_37 : decode cL_law 37 = .ok (.bipush 63, 2) := by decide +kernel
theorem dL_law_39 : decode cL_law 39 = .ok (.iand, 1) := by decide +kernel
theorem dL_law_40 : decode cL_law 40 = .ok (.tableswitch 1351 0 32 #[148, 173, 210, 223, 248, 261, 298, 323, 360, 385, 434, 483, 532, 581, 630, 679, 692, 705, 778, 791, 816, 865, 914, 963, 976, 989, 1014, 1063, 1112, 1161, 1228, 1301, 1326], 148) := by decide +kernel
theorem dL_law_188 : decode cL_law 188 = .ok (.aload_n 1, 1) := by decide +kernel
theorem dL_law_189 : decode cL_law 189 = .ok (.aload_n 0, 1) := by decide +kernel
theorem dL_law_190 : decode cL_law 190 = .ok (.iload 4, 2) := by decide +kernel
theorem dL_law_192 : decode cL_law 192 = .ok (.iconst 1, 1) := by decide +kernel
theorem dL_law_193 : decode cL_law 193 = .ok (.iadd, 1) := by decide +kernel
theorem dL_law_194 : decode cL_law 194 = .ok (.iaload, 1) := by decide +kernel
theorem dL_law_195 : decode cL_law 195 = .ok (.invokevirtual 21, 3) := by decide +kernel
theorem dL_law_198 : decode cL_law 198 = .ok (.aload_n 2, 1) := by decide +kernel
theorem dL_law_199 : decode cL_law 199 = .ok (.aload_n 0, 1) := by decide +kernel
theorem dL_law_200 : decode cL_law 200 = .ok (.iload 4, 2) := by decide +kernel
theorem dL_law_202 : decode cL_law 202 = .ok (.iconst 1, 1) := by decide +kernel
theorem dL_law_203 : decode cL_law 203 = .ok (.iadd, 1) := by decide +kernel
theorem dL_law_204 : decode cL_law 204 = .ok (.iaload, 1) := by decide +kernel
theorem dL_law_205 : decode cL_law 205 = .ok (.invokevirtual 25, 3) := by decide +kernel
theorem dL_law_208 : decode cL_law 208 = .ok (.if_icmp .eq 1183, 3) := by decide +kernel
theorem dL_law_211 : decode cL_law 211 = .ok (.iconst 0, 1) := by decide +kernel
theorem dL_law_212 : decode cL_law 212 = .ok (.ireturn, 1) := by decide +kernel
theorem dL_law_213 : decode cL_law 213 = .ok (.aload_n 1, 1) := by decide +kernel
theorem dL_law_214 : decode cL_law 214 = .ok (.aload_n 0, 1) := by decide +kernel
theorem dL_law_215 : decode cL_law 215 = .ok (.iload 4, 2) := by decide +kernel
theorem dL_law_217 : decode cL_law 217 = .ok (.iconst 1, 1) := by decide +kernel
theorem dL_law_218 : decode cL_law 218 = .ok (.iadd, 1) := by decide +kernel
theorem dL_law_219 : decode cL_law 219 = .ok (.iaload, 1) := by decide +kernel
theorem dL_law_220 : decode cL_law 220 = .ok (.aload_n 0, 1) := by decide +kernel
theorem dL_law_221 : decode cL_law 221 = .ok (.iload 4, 2) := by decide +kernel
theorem dL_law_223 : decode cL_law 223 = .ok (.iconst 2, 1) := by decide +kernel
theorem dL_law_224 : decode cL_law 224 = .ok (.iadd, 1) := by decide +kernel
theorem dL_law_225 : decode cL_law 225 = .ok (.iaload, 1) := by decide +kernel
theorem dL_law_226 : decode cL_law 226 = .ok (.invokevirtual 26, 3) := by decide +kernel
theorem dL_law_229 : decode cL_law 229 = .ok (.aload_n 2, 1) := by decide +kernel
theorem dL_law_230 : decode cL_law 230 = .ok (.aload_n 0, 1) := by decide +kernel
theorem dL_law_231 : decode cL_law 231 = .ok (.iload 4, 2) := by decide +kernel
theorem dL_law_233 : decode cL_law 233 = .ok (.iconst 1, 1) := by decide +kernel
theorem dL_law_234 : decode cL_law 234 = .ok (.iadd, 1) := by decide +kernel
theorem dL_law_235 : decode cL_law 235 = .ok (.iaload, 1) := by decide +kernel
theorem dL_law_236 : decode cL_law 236 = .ok (.aload_n 0, 1) := by decide +kernel
theorem dL_law_237 : decode cL_law 237 = .ok (.iload 4, 2) := by decide +kernel
theorem dL_law_239 : decode cL_law 239 = .ok (.iconst 2, 1) := by decide +kernel
theorem dL_law_240 : decode cL_law 240 = .ok (.iadd, 1) := by decide +kernel
theorem dL_law_241 : decode cL_law 241 = .ok (.iaload, 1) := by decide +kernel
theorem dL_law_242 : decode cL_law 242 = .ok (.invokevirtual 30, 3) := by decide +kernel
theorem dL_law_245 : decode cL_law 245 = .ok (.if_icmp .eq 1146, 3) := by decide +kernel
theorem dL_law_248 : decode cL_law 248 = .ok (.iconst 0, 1) := by decide +kernel
theorem dL_law_249 : decode cL_law 249 = .ok (.ireturn, 1) := by decide +kernel
theorem dL_law_250 : decode cL_law 250 = .ok (.aload_n 1, 1) := by decide +kernel
theorem dL_law_251 : decode cL_law 251 = .ok (.invokevirtual 31, 3) := by decide +kernel
theorem dL_law_254 : decode cL_law 254 = .ok (.aload_n 2, 1) := by decide +kernel
theorem dL_law_255 : decode cL_law 255 = .ok (.invokevirtual 35, 3) := by decide +kernel
theorem dL_law_258 : decode cL_law 258 = .ok (.if_icmp .eq 1133, 3) := by decide +kernel
theorem dL_law_261 : decode cL_law 261 = .ok (.iconst 0, 1) := by decide +kernel
theorem dL_law_262 : decode cL_law 262 = .ok (.ireturn, 1) := by decide +kernel
theorem dL_law_263 : decode cL_law 263 = .ok (.aload_n 1, 1) := by decide +kernel
theorem dL_law_264 : decode cL_law 264 = .ok (.aload_n 0, 1) := by decide +kernel
theorem dL_law_265 : decode cL_law 265 = .ok (.iload 4, 2) := by decide +kernel
theorem dL_law_267 : decode cL_law 267 = .ok (.iconst 1, 1) := by decide +kernel
theorem dL_law_268 : decode cL_law 268 = .ok (.iadd, 1) := by decide +kernel
theorem dL_law_269 : decode cL_law 269 = .ok (.iaload, 1) := by decide +kernel
theorem dL_law_270 : decode cL_law 270 = .ok (.invokevirtual 36, 3) := by decide +kernel
theorem dL_law_273 : decode cL_law 273 = .ok (.aload_n 2, 1) := by decide +kernel
theorem dL_law_274 : decode cL_law 274 = .ok (.aload_n 0, 1) := by decide +kernel
theorem dL_law_275 : decode cL_law 275 = .ok (.iload 4, 2) := by decide +kernel
theorem dL_law_277 : decode cL_law 277 = .ok (.iconst 1, 1) := by decide +kernel
theorem dL_law_278 : decode cL_law 278 = .ok (.iadd, 1) := by decide +kernel
theorem dL_law_279 : decode cL_law 279 = .ok (.iaload, 1) := by decide +kernel
theorem dL_law_280 : decode cL_law 280 = .ok (.invokevirtual 39, 3) := by decide +kernel
theorem dL_law_283 : decode cL_law 283 = .ok (.if_icmp .eq 1108, 3) := by decide +kernel
theorem dL_law_286 : decode cL_law 286 = .ok (.iconst 0, 1) := by decide +kernel
theorem dL_law_287 : decode cL_law 287 = .ok (.ireturn, 1) := by decide +kernel
theorem dL_law_288 : decode cL_law 288 = .ok (.aload_n 1, 1) := by decide +kernel
theorem dL_law_289 : decode cL_law 289 = .ok (.invokevirtual 40, 3) := by decide +kernel
theorem dL_law_292 : decode cL_law 292 = .ok (.aload_n 2, 1) := by decide +kernel
theorem dL_law_293 : decode cL_law 293 = .ok (.invokevirtual 43, 3) := by decide +kernel
theorem dL_law_296 : decode cL_law 296 = .ok (.if_icmp .eq 1095, 3) := by decide +kernel
theorem dL_law_299 : decode cL_law 299 = .ok (.iconst 0, 1) := by decide +kernel
theorem dL_law_300 : decode cL_law 300 = .ok (.ireturn, 1) := by decide +kernel
theorem dL_law_301 : decode cL_law 301 = .ok (.aload_n 1, 1) := by decide +kernel
theorem dL_law_302 : decode cL_law 302 = .ok (.aload_n 0, 1) := by decide +kernel
theorem dL_law_303 : decode cL_law 303 = .ok (.iload 4, 2) := by decide +kernel
theorem dL_law_305 : decode cL_law 305 = .ok (.iconst 1, 1) := by decide +kernel
theorem dL_law_306 : decode cL_law 306 = .ok (.iadd, 1) := by decide +kernel
theorem dL_law_307 : decode cL_law 307 = .ok (.iaload, 1) := by decide +kernel
theorem dL_law_308 : decode cL_law 308 = .ok (.aload_n 0, 1) := by decide +kernel
theorem dL_law_309 : decode cL_law 309 = .ok (.iload 4, 2) := by decide +kernel
theorem dL_law_311 : decode cL_law 311 = .ok (.iconst 2, 1) := by decide +kernel
theorem dL_law_312 : decode cL_law 312 = .ok (.iadd, 1) := by decide +kernel
theorem dL_law_313 : decode cL_law 313 = .ok (.iaload, 1) := by decide +kernel
theorem dL_law_314 : decode cL_law 314 = .ok (.invokevirtual 44, 3) := by decide +kernel
theorem dL_law_317 : decode cL_law 317 = .ok (.aload_n 2, 1) := by decide +kernel
theorem dL_law_318 : decode cL_law 318 = .ok (.aload_n 0, 1) := by decide +kernel
theorem dL_law_319 : decode cL_law 319 = .ok (.iload 4, 2) := by decide +kernel
theorem dL_law_321 : decode cL_law 321 = .ok (.iconst 1, 1) := by decide +kernel
theorem dL_law_322 : decode cL_law 322 = .ok (.iadd, 1) := by decide +kernel
theorem dL_law_323 : decode cL_law 323 = .ok (.iaload, 1) := by decide +kernel
theorem dL_law_324 : decode cL_law 324 = .ok (.aload_n 0, 1) := by decide +kernel
theorem dL_law_325 : decode cL_law 325 = .ok (.iload 4, 2) := by decide +kernel
theorem dL_law_327 : decode cL_law 327 = .ok (.iconst 2, 1) := by decide +kernel
theorem dL_law_328 : decode cL_law 328 = .ok (.iadd, 1) := by decide +kernel
theorem dL_law_329 : decode cL_law 329 = .ok (.iaload, 1) := by decide +kernel
theorem dL_law_330 : decode cL_law 330 = .ok (.invokevirtual 47, 3) := by decide +kernel
theorem dL_law_333 : decode cL_law 333 = .ok (.if_icmp .eq 1058, 3) := by decide +kernel
theorem dL_law_336 : decode cL_law 336 = .ok (.iconst 0, 1) := by decide +kernel
theorem dL_law_337 : decode cL_law 337 = .ok (.ireturn, 1) := by decide +kernel
theorem dL_law_338 : decode cL_law 338 = .ok (.aload_n 1, 1) := by decide +kernel
theorem dL_law_339 : decode cL_law 339 = .ok (.aload_n 0, 1) := by decide +kernel
theorem dL_law_340 : decode cL_law 340 = .ok (.iload 4, 2) := by decide +kernel
theorem dL_law_342 : decode cL_law 342 = .ok (.iconst 1, 1) := by decide +kernel
theorem dL_law_343 : decode cL_law 343 = .ok (.iadd, 1) := by decide +kernel
theorem dL_law_344 : decode cL_law 344 = .ok (.iaload, 1) := by decide +kernel
theorem dL_law_345 : decode cL_law 345 = .ok (.invokevirtual 48, 3) := by decide +kernel
theorem dL_law_348 : decode cL_law 348 = .ok (.aload_n 2, 1) := by decide +kernel
theorem dL_law_349 : decode cL_law 349 = .ok (.aload_n 0, 1) := by decide +kernel
theorem dL_law_350 : decode cL_law 350 = .ok (.iload 4, 2) := by decide +kernel
theorem dL_law_352 : decode cL_law 352 = .ok (.iconst 1, 1) := by decide +kernel
theorem dL_law_353 : decode cL_law 353 = .ok (.iadd, 1) := by decide +kernel
theorem dL_law_354 : decode cL_law 354 = .ok (.iaload, 1) := by decide +kernel
theorem dL_law_355 : decode cL_law 355 = .ok (.invokevirtual 51, 3) := by decide +kernel
theorem dL_law_358 : decode cL_law 358 = .ok (.if_icmp .eq 1033, 3) := by decide +kernel
theorem dL_law_361 : decode cL_law 361 = .ok (.iconst 0, 1) := by decide +kernel
theorem dL_law_362 : decode cL_law 362 = .ok (.ireturn, 1) := by decide +kernel
theorem dL_law_363 : decode cL_law 363 = .ok (.aload_n 1, 1) := by decide +kernel
theorem dL_law_364 : decode cL_law 364 = .ok (.aload_n 0, 1) := by decide +kernel
theorem dL_law_365 : decode cL_law 365 = .ok (.iload 4, 2) := by decide +kernel
theorem dL_law_367 : decode cL_law 367 = .ok (.iconst 1, 1) := by decide +kernel
theorem dL_law_368 : decode cL_law 368 = .ok (.iadd, 1) := by decide +kernel
theorem dL_law_369 : decode cL_law 369 = .ok (.iaload, 1) := by decide +kernel
theorem dL_law_370 : decode cL_law 370 = .ok (.aload_n 0, 1) := by decide +kernel
theorem dL_law_371 : decode cL_law 371 = .ok (.iload 4, 2) := by decide +kernel
theorem dL_law_373 : decode cL_law 373 = .ok (.iconst 2, 1) := by decide +kernel
theorem dL_law_374 : decode cL_law 374 = .ok (.iadd, 1) := by decide +kernel
theorem dL_law_375 : decode cL_law 375 = .ok (.iaload, 1) := by decide +kernel
theorem dL_law_376 : decode cL_law 376 = .ok (.invokevirtual 52, 3) := by decide +kernel
theorem dL_law_379 : decode cL_law 379 = .ok (.aload_n 2, 1) := by decide +kernel
theorem dL_law_380 : decode cL_law 380 = .ok (.aload_n 0, 1) := by decide +kernel
theorem dL_law_381 : decode cL_law 381 = .ok (.iload 4, 2) := by decide +kernel
theorem dL_law_383 : decode cL_law 383 = .ok (.iconst 1, 1) := by decide +kernel
theorem dL_law_384 : decode cL_law 384 = .ok (.iadd, 1) := by decide +kernel
theorem dL_law_385 : decode cL_law 385 = .ok (.iaload, 1) := by decide +kernel
theorem dL_law_386 : decode cL_law 386 = .ok (.aload_n 0, 1) := by decide +kernel
theorem dL_law_387 : decode cL_law 387 = .ok (.iload 4, 2) := by decide +kernel
theorem dL_law_389 : decode cL_law 389 = .ok (.iconst 2, 1) := by decide +kernel
theorem dL_law_390 : decode cL_law 390 = .ok (.iadd, 1) := by decide +kernel
theorem dL_law_391 : decode cL_law 391 = .ok (.iaload, 1) := by decide +kernel
theorem dL_law_392 : decode cL_law 392 = .ok (.invokevirtual 55, 3) := by decide +kernel
theorem dL_law_395 : decode cL_law 395 = .ok (.if_icmp .eq 996, 3) := by decide +kernel
theorem dL_law_398 : decode cL_law 398 = .ok (.iconst 0, 1) := by decide +kernel
theorem dL_law_399 : decode cL_law 399 = .ok (.ireturn, 1) := by decide +kernel
theorem dL_law_400 : decode cL_law 400 = .ok (.aload_n 1, 1) := by decide +kernel
theorem dL_law_401 : decode cL_law 401 = .ok (.aload_n 0, 1) := by decide +kernel
theorem dL_law_402 : decode cL_law 402 = .ok (.iload 4, 2) := by decide +kernel
theorem dL_law_404 : decode cL_law 404 = .ok (.iconst 1, 1) := by decide +kernel
theorem dL_law_405 : decode cL_law 405 = .ok (.iadd, 1) := by decide +kernel
theorem dL_law_406 : decode cL_law 406 = .ok (.iaload, 1) := by decide +kernel
theorem dL_law_407 : decode cL_law 407 = .ok (.invokevirtual 56, 3) := by decide +kernel
theorem dL_law_410 : decode cL_law 410 = .ok (.aload_n 2, 1) := by decide +kernel
theorem dL_law_411 : decode cL_law 411 = .ok (.aload_n 0, 1) := by decide +kernel
theorem dL_law_412 : decode cL_law 412 = .ok (.iload 4, 2) := by decide +kernel
theorem dL_law_414 : decode cL_law 414 = .ok (.iconst 1, 1) := by decide +kernel
theorem dL_law_415 : decode cL_law 415 = .ok (.iadd, 1) := by decide +kernel
theorem dL_law_416 : decode cL_law 416 = .ok (.iaload, 1) := by decide +kernel
theorem dL_law_417 : decode cL_law 417 = .ok (.invokevirtual 59, 3) := by decide +kernel
theorem dL_law_420 : decode cL_law 420 = .ok (.if_icmp .eq 971, 3) := by decide +kernel
theorem dL_law_423 : decode cL_law 423 = .ok (.iconst 0, 1) := by decide +kernel
theorem dL_law_424 : decode cL_law 424 = .ok (.ireturn, 1) := by decide +kernel
theorem dL_law_425 : decode cL_law 425 = .ok (.aload_n 1, 1) := by decide +kernel
theorem dL_law_426 : decode cL_law 426 = .ok (.aload_n 0, 1) := by decide +kernel
theorem dL_law_427 : decode cL_law 427 = .ok (.iload 4, 2) := by decide +kernel
theorem dL_law_429 : decode cL_law 429 = .ok (.iconst 1, 1) := by decide +kernel
theorem dL_law_430 : decode cL_law 430 = .ok (.iadd, 1) := by decide +kernel
theorem dL_law_431 : decode cL_law 431 = .ok (.iaload, 1) := by decide +kernel
theorem dL_law_432 : decode cL_law 432 = .ok (.aload_n 0, 1) := by decide +kernel
theorem dL_law_433 : decode cL_law 433 = .ok (.iload 4, 2) := by decide +kernel
theorem dL_law_435 : decode cL_law 435 = .ok (.iconst 2, 1) := by decide +kernel
theorem dL_law_436 : decode cL_law 436 = .ok (.iadd, 1) := by decide +kernel
theorem dL_law_437 : decode cL_law 437 = .ok (.iaload, 1) := by decide +kernel
theorem dL_law_438 : decode cL_law 438 = .ok (.aload_n 0, 1) := by decide +kernel
theorem dL_law_439 : decode cL_law 439 = .ok (.iload 4, 2) := by decide +kernel
theorem dL_law_441 : decode cL_law 441 = .ok (.iconst 3, 1) := by decide +kernel
theorem dL_law_442 : decode cL_law 442 = .ok (.iadd, 1) := by decide +kernel
theorem dL_law_443 : decode cL_law 443 = .ok (.iaload, 1) := by decide +kernel
theorem dL_law_444 : decode cL_law 444 = .ok (.invokevirtual 60, 3) := by decide +kernel
theorem dL_law_447 : decode cL_law 447 = .ok (.aload_n 2, 1) := by decide +kernel
theorem dL_law_448 : decode cL_law 448 = .ok (.aload_n 0, 1) := by decide +kernel
theorem dL_law_449 : decode cL_law 449 = .ok (.iload 4, 2) := by decide +kernel
theorem dL_law_451 : decode cL_law 451 = .ok (.iconst 1, 1) := by decide +kernel
theorem dL_law_452 : decode cL_law 452 = .ok (.iadd, 1) := by decide +kernel
theorem dL_law_453 : decode cL_law 453 = .ok (.iaload, 1) := by decide +kernel
theorem dL_law_454 : decode cL_law 454 = .ok (.aload_n 0, 1) := by decide +kernel
theorem dL_law_455 : decode cL_law 455 = .ok (.iload 4, 2) := by decide +kernel
theorem dL_law_457 : decode cL_law 457 = .ok (.iconst 2, 1) := by decide +kernel
theorem dL_law_458 : decode cL_law 458 = .ok (.iadd, 1) := by decide +kernel
theorem dL_law_459 : decode cL_law 459 = .ok (.iaload, 1) := by decide +kernel
theorem dL_law_460 : decode cL_law 460 = .ok (.aload_n 0, 1) := by decide +kernel
theorem dL_law_461 : decode cL_law 461 = .ok (.iload 4, 2) := by decide +kernel
theorem dL_law_463 : decode cL_law 463 = .ok (.iconst 3, 1) := by decide +kernel
theorem dL_law_464 : decode cL_law 464 = .ok (.iadd, 1) := by decide +kernel
theorem dL_law_465 : decode cL_law 465 = .ok (.iaload, 1) := by decide +kernel
theorem dL_law_466 : decode cL_law 466 = .ok (.invokevirtual 64, 3) := by decide +kernel
theorem dL_law_469 : decode cL_law 469 = .ok (.if_icmp .eq 922, 3) := by decide +kernel
theorem dL_law_472 : decode cL_law 472 = .ok (.iconst 0, 1) := by decide +kernel
theorem dL_law_473 : decode cL_law 473 = .ok (.ireturn, 1) := by decide +kernel
theorem dL_law_474 : decode cL_law 474 = .ok (.aload_n 1, 1) := by decide +kernel
theorem dL_law_475 : decode cL_law 475 = .ok (.aload_n 0, 1) := by decide +kernel
theorem dL_law_476 : decode cL_law 476 = .ok (.iload 4, 2) := by decide +kernel
theorem dL_law_478 : decode cL_law 478 = .ok (.iconst 1, 1) := by decide +kernel
theorem dL_law_479 : decode cL_law 479 = .ok (.iadd, 1) := by decide +kernel
theorem dL_law_480 : decode cL_law 480 = .ok (.iaload, 1) := by decide +kernel
theorem dL_law_481 : decode cL_law 481 = .ok (.aload_n 0, 1) := by decide +kernel
theorem dL_law_482 : decode cL_law 482 = .ok (.iload 4, 2) := by decide +kernel
theorem dL_law_484 : decode cL_law 484 = .ok (.iconst 2, 1) := by decide +kernel
theorem dL_law_485 : decode cL_law 485 = .ok (.iadd, 1) := by decide +kernel
theorem dL_law_486 : decode cL_law 486 = .ok (.iaload, 1) := by decide +kernel
theorem dL_law_487 : decode cL_law 487 = .ok (.aload_n 0, 1) := by decide +kernel
theorem dL_law_488 : decode cL_law 488 = .ok (.iload 4, 2) := by decide +kernel
theorem dL_law_490 : decode cL_law 490 = .ok (.iconst 3, 1) := by decide +kernel
theorem dL_law_491 : decode cL_law 491 = .ok (.iadd, 1) := by decide +kernel
theorem dL_law_492 : decode cL_law 492 = .ok (.iaload, 1) := by decide +kernel
theorem dL_law_493 : decode cL_law 493 = .ok (.invokevirtual 65, 3) := by decide +kernel
theorem dL_law_496 : decode cL_law 496 = .ok (.aload_n 2, 1) := by decide +kernel
theorem dL_law_497 : decode cL_law 497 = .ok (.aload_n 0, 1) := by decide +kernel
theorem dL_law_498 : decode cL_law 498 = .ok (.iload 4, 2) := by decide +kernel
theorem dL_law_500 : decode cL_law 500 = .ok (.iconst 1, 1) := by decide +kernel
theorem dL_law_501 : decode cL_law 501 = .ok (.iadd, 1) := by decide +kernel
theorem dL_law_502 : decode cL_law 502 = .ok (.iaload, 1) := by decide +kernel
theorem dL_law_503 : decode cL_law 503 = .ok (.aload_n 0, 1) := by decide +kernel
theorem dL_law_504 : decode cL_law 504 = .ok (.iload 4, 2) := by decide +kernel
theorem dL_law_506 : decode cL_law 506 = .ok (.iconst 2, 1) := by decide +kernel
theorem dL_law_507 : decode cL_law 507 = .ok (.iadd, 1) := by decide +kernel
theorem dL_law_508 : decode cL_law 508 = .ok (.iaload, 1) := by decide +kernel
theorem dL_law_509 : decode cL_law 509 = .ok (.aload_n 0, 1) := by decide +kernel
theorem dL_law_510 : decode cL_law 510 = .ok (.iload 4, 2) := by decide +kernel
theorem dL_law_512 : decode cL_law 512 = .ok (.iconst 3, 1) := by decide +kernel
theorem dL_law_513 : decode cL_law 513 = .ok (.iadd, 1) := by decide +kernel
theorem dL_law_514 : decode cL_law 514 = .ok (.iaload, 1) := by decide +kernel
theorem dL_law_515 : decode cL_law 515 = .ok (.invokevirtual 68, 3) := by decide +kernel
theorem dL_law_518 : decode cL_law 518 = .ok (.if_icmp .eq 873, 3) := by decide +kernel
theorem dL_law_521 : decode cL_law 521 = .ok (.iconst 0, 1) := by decide +kernel
theorem dL_law_522 : decode cL_law 522 = .ok (.ireturn, 1) := by decide +kernel
theorem dL_law_523 : decode cL_law 523 = .ok (.aload_n 1, 1) := by decide +kernel
theorem dL_law_524 : decode cL_law 524 = .ok (.aload_n 0, 1) := by decide +kernel
theorem dL_law_525 : decode cL_law 525 = .ok (.iload 4, 2) := by decide +kernel
theorem dL_law_527 : decode cL_law 527 = .ok (.iconst 1, 1) := by decide +kernel
theorem dL_law_528 : decode cL_law 528 = .ok (.iadd, 1) := by decide +kernel
theorem dL_law_529 : decode cL_law 529 = .ok (.iaload, 1) := by decide +kernel
theorem dL_law_530 : decode cL_law 530 = .ok (.aload_n 0, 1) := by decide +kernel
theorem dL_law_531 : decode cL_law 531 = .ok (.iload 4, 2) := by decide +kernel
theorem dL_law_533 : decode cL_law 533 = .ok (.iconst 2, 1) := by decide +kernel
theorem dL_law_534 : decode cL_law 534 = .ok (.iadd, 1) := by decide +kernel
theorem dL_law_535 : decode cL_law 535 = .ok (.iaload, 1) := by decide +kernel
theorem dL_law_536 : decode cL_law 536 = .ok (.aload_n 0, 1) := by decide +kernel
theorem dL_law_537 : decode cL_law 537 = .ok (.iload 4, 2) := by decide +kernel
theorem dL_law_539 : decode cL_law 539 = .ok (.iconst 3, 1) := by decide +kernel
theorem dL_law_540 : decode cL_law 540 = .ok (.iadd, 1) := by decide +kernel
theorem dL_law_541 : decode cL_law 541 = .ok (.iaload, 1) := by decide +kernel
theorem dL_law_542 : decode cL_law 542 = .ok (.invokevirtual 69, 3) := by decide +kernel
theorem dL_law_545 : decode cL_law 545 = .ok (.aload_n 2, 1) := by decide +kernel
theorem dL_law_546 : decode cL_law 546 = .ok (.aload_n 0, 1) := by decide +kernel
theorem dL_law_547 : decode cL_law 547 = .ok (.iload 4, 2) := by decide +kernel
theorem dL_law_549 : decode cL_law 549 = .ok (.iconst 1, 1) := by decide +kernel
theorem dL_law_550 : decode cL_law 550 = .ok (.iadd, 1) := by decide +kernel
theorem dL_law_551 : decode cL_law 551 = .ok (.iaload, 1) := by decide +kernel
theorem dL_law_552 : decode cL_law 552 = .ok (.aload_n 0, 1) := by decide +kernel
theorem dL_law_553 : decode cL_law 553 = .ok (.iload 4, 2) := by decide +kernel
theorem dL_law_555 : decode cL_law 555 = .ok (.iconst 2, 1) := by decide +kernel
theorem dL_law_556 : decode cL_law 556 = .ok (.iadd, 1) := by decide +kernel
theorem dL_law_557 : decode cL_law 557 = .ok (.iaload, 1) := by decide +kernel
theorem dL_law_558 : decode cL_law 558 = .ok (.aload_n 0, 1) := by decide +kernel
theorem dL_law_559 : decode cL_law 559 = .ok (.iload 4, 2) := by decide +kernel
theorem dL_law_561 : decode cL_law 561 = .ok (.iconst 3, 1) := by decide +kernel
theorem dL_law_562 : decode cL_law 562 = .ok (.iadd, 1) := by decide +kernel
theorem dL_law_563 : decode cL_law 563 = .ok (.iaload, 1) := by decide +kernel
theorem dL_law_564 : decode cL_law 564 = .ok (.invokevirtual 72, 3) := by decide +kernel
theorem dL_law_567 : decode cL_law 567 = .ok (.if_icmp .eq 824, 3) := by decide +kernel
theorem dL_law_570 : decode cL_law 570 = .ok (.iconst 0, 1) := by decide +kernel
theorem dL_law_571 : decode cL_law 571 = .ok (.ireturn, 1) := by decide +kernel
theorem dL_law_572 : decode cL_law 572 = .ok (.aload_n 1, 1) := by decide +kernel
theorem dL_law_573 : decode cL_law 573 = .ok (.aload_n 0, 1) := by decide +kernel
theorem dL_law_574 : decode cL_law 574 = .ok (.iload 4, 2) := by decide +kernel
theorem dL_law_576 : decode cL_law 576 = .ok (.iconst 1, 1) := by decide +kernel
theorem dL_law_577 : decode cL_law 577 = .ok (.iadd, 1) := by decide +kernel
theorem dL_law_578 : decode cL_law 578 = .ok (.iaload, 1) := by decide +kernel
theorem dL_law_579 : decode cL_law 579 = .ok (.aload_n 0, 1) := by decide +kernel
theorem dL_law_580 : decode cL_law 580 = .ok (.iload 4, 2) := by decide +kernel
theorem dL_law_582 : decode cL_law 582 = .ok (.iconst 2, 1) := by decide +kernel
theorem dL_law_583 : decode cL_law 583 = .ok (.iadd, 1) := by decide +kernel
theorem dL_law_584 : decode cL_law 584 = .ok (.iaload, 1) := by decide +kernel
theorem dL_law_585 : decode cL_law 585 = .ok (.aload_n 0, 1) := by decide +kernel
theorem dL_law_586 : decode cL_law 586 = .ok (.iload 4, 2) := by decide +kernel
theorem dL_law_588 : decode cL_law 588 = .ok (.iconst 3, 1) := by decide +kernel
theorem dL_law_589 : decode cL_law 589 = .ok (.iadd, 1) := by decide +kernel
theorem dL_law_590 : decode cL_law 590 = .ok (.iaload, 1) := by decide +kernel
theorem dL_law_591 : decode cL_law 591 = .ok (.invokevirtual 73, 3) := by decide +kernel
theorem dL_law_594 : decode cL_law 594 = .ok (.aload_n 2, 1) := by decide +kernel
theorem dL_law_595 : decode cL_law 595 = .ok (.aload_n 0, 1) := by decide +kernel
theorem dL_law_596 : decode cL_law 596 = .ok (.iload 4, 2) := by decide +kernel
theorem dL_law_598 : decode cL_law 598 = .ok (.iconst 1, 1) := by decide +kernel
theorem dL_law_599 : decode cL_law 599 = .ok (.iadd, 1) := by decide +kernel
theorem dL_law_600 : decode cL_law 600 = .ok (.iaload, 1) := by decide +kernel
theorem dL_law_601 : decode cL_law 601 = .ok (.aload_n 0, 1) := by decide +kernel
theorem dL_law_602 : decode cL_law 602 = .ok (.iload 4, 2) := by decide +kernel
theorem dL_law_604 : decode cL_law 604 = .ok (.iconst 2, 1) := by decide +kernel
theorem dL_law_605 : decode cL_law 605 = .ok (.iadd, 1) := by decide +kernel
theorem dL_law_606 : decode cL_law 606 = .ok (.iaload, 1) := by decide +kernel
theorem dL_law_607 : decode cL_law 607 = .ok (.aload_n 0, 1) := by decide +kernel
theorem dL_law_608 : decode cL_law 608 = .ok (.iload 4, 2) := by decide +kernel
theorem dL_law_610 : decode cL_law 610 = .ok (.iconst 3, 1) := by decide +kernel
theorem dL_law_611 : decode cL_law 611 = .ok (.iadd, 1) := by decide +kernel
theorem dL_law_612 : decode cL_law 612 = .ok (.iaload, 1) := by decide +kernel
theorem dL_law_613 : decode cL_law 613 = .ok (.invokevirtual 76, 3) := by decide +kernel
theorem dL_law_616 : decode cL_law 616 = .ok (.if_icmp .eq 775, 3) := by decide +kernel
theorem dL_law_619 : decode cL_law 619 = .ok (.iconst 0, 1) := by decide +kernel
theorem dL_law_620 : decode cL_law 620 = .ok (.ireturn, 1) := by decide +kernel
theorem dL_law_621 : decode cL_law 621 = .ok (.aload_n 1, 1) := by decide +kernel
theorem dL_law_622 : decode cL_law 622 = .ok (.aload_n 0, 1) := by decide +kernel
theorem dL_law_623 : decode cL_law 623 = .ok (.iload 4, 2) := by decide +kernel
theorem dL_law_625 : decode cL_law 625 = .ok (.iconst 1, 1) := by decide +kernel
theorem dL_law_626 : decode cL_law 626 = .ok (.iadd, 1) := by decide +kernel
theorem dL_law_627 : decode cL_law 627 = .ok (.iaload, 1) := by decide +kernel
theorem dL_law_628 : decode cL_law 628 = .ok (.aload_n 0, 1) := by decide +kernel
theorem dL_law_629 : decode cL_law 629 = .ok (.iload 4, 2) := by decide +kernel
theorem dL_law_631 : decode cL_law 631 = .ok (.iconst 2, 1) := by decide +kernel
theorem dL_law_632 : decode cL_law 632 = .ok (.iadd, 1) := by decide +kernel
theorem dL_law_633 : decode cL_law 633 = .ok (.iaload, 1) := by decide +kernel
theorem dL_law_634 : decode cL_law 634 = .ok (.aload_n 0, 1) := by decide +kernel
theorem dL_law_635 : decode cL_law 635 = .ok (.iload 4, 2) := by decide +kernel
theorem dL_law_637 : decode cL_law 637 = .ok (.iconst 3, 1) := by decide +kernel
theorem dL_law_638 : decode cL_law 638 = .ok (.iadd, 1) := by decide +kernel
theorem dL_law_639 : decode cL_law 639 = .ok (.iaload, 1) := by decide +kernel
theorem dL_law_640 : decode cL_law 640 = .ok (.invokevirtual 77, 3) := by decide +kernel
theorem dL_law_643 : decode cL_law 643 = .ok (.aload_n 2, 1) := by decide +kernel
theorem dL_law_644 : decode cL_law 644 = .ok (.aload_n 0, 1) := by decide +kernel
theorem dL_law_645 : decode cL_law 645 = .ok (.iload 4, 2) := by decide +kernel
theorem dL_law_647 : decode cL_law 647 = .ok (.iconst 1, 1) := by decide +kernel
theorem dL_law_648 : decode cL_law 648 = .ok (.iadd, 1) := by decide +kernel
theorem dL_law_649 : decode cL_law 649 = .ok (.iaload, 1) := by decide +kernel
theorem dL_law_650 : decode cL_law 650 = .ok (.aload_n 0, 1) := by decide +kernel
theorem dL_law_651 : decode cL_law 651 = .ok (.iload 4, 2) := by decide +kernel
theorem dL_law_653 : decode cL_law 653 = .ok (.iconst 2, 1) := by decide +kernel
theorem dL_law_654 : decode cL_law 654 = .ok (.iadd, 1) := by decide +kernel
theorem dL_law_655 : decode cL_law 655 = .ok (.iaload, 1) := by decide +kernel
theorem dL_law_656 : decode cL_law 656 = .ok (.aload_n 0, 1) := by decide +kernel
theorem dL_law_657 : decode cL_law 657 = .ok (.iload 4, 2) := by decide +kernel
theorem dL_law_659 : decode cL_law 659 = .ok (.iconst 3, 1) := by decide +kernel
theorem dL_law_660 : decode cL_law 660 = .ok (.iadd, 1) := by decide +kernel
theorem dL_law_661 : decode cL_law 661 = .ok (.iaload, 1) := by decide +kernel
theorem dL_law_662 : decode cL_law 662 = .ok (.invokevirtual 80, 3) := by decide +kernel
theorem dL_law_665 : decode cL_law 665 = .ok (.if_icmp .eq 726, 3) := by decide +kernel
theorem dL_law_668 : decode cL_law 668 = .ok (.iconst 0, 1) := by decide +kernel
theorem dL_law_669 : decode cL_law 669 = .ok (.ireturn, 1) := by decide +kernel
theorem dL_law_670 : decode cL_law 670 = .ok (.aload_n 1, 1) := by decide +kernel
theorem dL_law_671 : decode cL_law 671 = .ok (.aload_n 0, 1) := by decide +kernel
theorem dL_law_672 : decode cL_law 672 = .ok (.iload 4, 2) := by decide +kernel
theorem dL_law_674 : decode cL_law 674 = .ok (.iconst 1, 1) := by decide +kernel
theorem dL_law_675 : decode cL_law 675 = .ok (.iadd, 1) := by decide +kernel
theorem dL_law_676 : decode cL_law 676 = .ok (.iaload, 1) := by decide +kernel
theorem dL_law_677 : decode cL_law 677 = .ok (.aload_n 0, 1) := by decide +kernel
theorem dL_law_678 : decode cL_law 678 = .ok (.iload 4, 2) := by decide +kernel
theorem dL_law_680 : decode cL_law 680 = .ok (.iconst 2, 1) := by decide +kernel
theorem dL_law_681 : decode cL_law 681 = .ok (.iadd, 1) := by decide +kernel
theorem dL_law_682 : decode cL_law 682 = .ok (.iaload, 1) := by decide +kernel
theorem dL_law_683 : decode cL_law 683 = .ok (.aload_n 0, 1) := by decide +kernel
theorem dL_law_684 : decode cL_law 684 = .ok (.iload 4, 2) := by decide +kernel
theorem dL_law_686 : decode cL_law 686 = .ok (.iconst 3, 1) := by decide +kernel
theorem dL_law_687 : decode cL_law 687 = .ok (.iadd, 1) := by decide +kernel
theorem dL_law_688 : decode cL_law 688 = .ok (.iaload, 1) := by decide +kernel
theorem dL_law_689 : decode cL_law 689 = .ok (.invokevirtual 81, 3) := by decide +kernel
theorem dL_law_692 : decode cL_law 692 = .ok (.aload_n 2, 1) := by decide +kernel
theorem dL_law_693 : decode cL_law 693 = .ok (.aload_n 0, 1) := by decide +kernel
theorem dL_law_694 : decode cL_law 694 = .ok (.iload 4, 2) := by decide +kernel
theorem dL_law_696 : decode cL_law 696 = .ok (.iconst 1, 1) := by decide +kernel
theorem dL_law_697 : decode cL_law 697 = .ok (.iadd, 1) := by decide +kernel
theorem dL_law_698 : decode cL_law 698 = .ok (.iaload, 1) := by decide +kernel
theorem dL_law_699 : decode cL_law 699 = .ok (.aload_n 0, 1) := by decide +kernel
theorem dL_law_700 : decode cL_law 700 = .ok (.iload 4, 2) := by decide +kernel
theorem dL_law_702 : decode cL_law 702 = .ok (.iconst 2, 1) := by decide +kernel
theorem dL_law_703 : decode cL_law 703 = .ok (.iadd, 1) := by decide +kernel
theorem dL_law_704 : decode cL_law 704 = .ok (.iaload, 1) := by decide +kernel
theorem dL_law_705 : decode cL_law 705 = .ok (.aload_n 0, 1) := by decide +kernel
theorem dL_law_706 : decode cL_law 706 = .ok (.iload 4, 2) := by decide +kernel
theorem dL_law_708 : decode cL_law 708 = .ok (.iconst 3, 1) := by decide +kernel
theorem dL_law_709 : decode cL_law 709 = .ok (.iadd, 1) := by decide +kernel
theorem dL_law_710 : decode cL_law 710 = .ok (.iaload, 1) := by decide +kernel
theorem dL_law_711 : decode cL_law 711 = .ok (.invokevirtual 84, 3) := by decide +kernel
theorem dL_law_714 : decode cL_law 714 = .ok (.if_icmp .eq 677, 3) := by decide +kernel
theorem dL_law_717 : decode cL_law 717 = .ok (.iconst 0, 1) := by decide +kernel
theorem dL_law_718 : decode cL_law 718 = .ok (.ireturn, 1) := by decide +kernel
theorem dL_law_719 : decode cL_law 719 = .ok (.aload_n 1, 1) := by decide +kernel
theorem dL_law_720 : decode cL_law 720 = .ok (.invokevirtual 85, 3) := by decide +kernel
theorem dL_law_723 : decode cL_law 723 = .ok (.aload_n 2, 1) := by decide +kernel
theorem dL_law_724 : decode cL_law 724 = .ok (.invokevirtual 88, 3) := by decide +kernel
theorem dL_law_727 : decode cL_law 727 = .ok (.if_icmp .eq 664, 3) := by decide +kernel
theorem dL_law_730 : decode cL_law 730 = .ok (.iconst 0, 1) := by decide +kernel
theorem dL_law_731 : decode cL_law 731 = .ok (.ireturn, 1) := by decide +kernel
theorem dL_law_732 : decode cL_law 732 = .ok (.aload_n 1, 1) := by decide +kernel
theorem dL_law_733 : decode cL_law 733 = .ok (.invokevirtual 89, 3) := by decide +kernel
theorem dL_law_736 : decode cL_law 736 = .ok (.aload_n 2, 1) := by decide +kernel
theorem dL_law_737 : decode cL_law 737 = .ok (.invokevirtual 92, 3) := by decide +kernel
theorem dL_law_740 : decode cL_law 740 = .ok (.if_icmp .eq 651, 3) := by decide +kernel
theorem dL_law_743 : decode cL_law 743 = .ok (.iconst 0, 1) := by decide +kernel
theorem dL_law_744 : decode cL_law 744 = .ok (.ireturn, 1) := by decide +kernel
theorem dL_law_745 : decode cL_law 745 = .ok (.aload_n 1, 1) := by decide +kernel
theorem dL_law_746 : decode cL_law 746 = .ok (.aload_n 0, 1) := by decide +kernel
theorem dL_law_747 : decode cL_law 747 = .ok (.iload 4, 2) := by decide +kernel
theorem dL_law_749 : decode cL_law 749 = .ok (.iconst 1, 1) := by decide +kernel
theorem dL_law_750 : decode cL_law 750 = .ok (.iadd, 1) := by decide +kernel
theorem dL_law_751 : decode cL_law 751 = .ok (.iaload, 1) := by decide +kernel
theorem dL_law_752 : decode cL_law 752 = .ok (.aload_n 0, 1) := by decide +kernel
theorem dL_law_753 : decode cL_law 753 = .ok (.iload 4, 2) := by decide +kernel
theorem dL_law_755 : decode cL_law 755 = .ok (.iconst 2, 1) := by decide +kernel
theorem dL_law_756 : decode cL_law 756 = .ok (.iadd, 1) := by decide +kernel
theorem dL_law_757 : decode cL_law 757 = .ok (.iaload, 1) := by decide +kernel
theorem dL_law_758 : decode cL_law 758 = .ok (.aload_n 0, 1) := by decide +kernel
theorem dL_law_759 : decode cL_law 759 = .ok (.iload 4, 2) := by decide +kernel
theorem dL_law_761 : decode cL_law 761 = .ok (.iconst 3, 1) := by decide +kernel
theorem dL_law_762 : decode cL_law 762 = .ok (.iadd, 1) := by decide +kernel
theorem dL_law_763 : decode cL_law 763 = .ok (.iaload, 1) := by decide +kernel
theorem dL_law_764 : decode cL_law 764 = .ok (.aload_n 0, 1) := by decide +kernel
theorem dL_law_765 : decode cL_law 765 = .ok (.iload 4, 2) := by decide +kernel
theorem dL_law_767 : decode cL_law 767 = .ok (.iconst 4, 1) := by decide +kernel
theorem dL_law_768 : decode cL_law 768 = .ok (.iadd, 1) := by decide +kernel
theorem dL_law_769 : decode cL_law 769 = .ok (.iaload, 1) := by decide +kernel
theorem dL_law_770 : decode cL_law 770 = .ok (.aload_n 0, 1) := by decide +kernel
theorem dL_law_771 : decode cL_law 771 = .ok (.iload 4, 2) := by decide +kernel
theorem dL_law_773 : decode cL_law 773 = .ok (.iconst 5, 1) := by decide +kernel
theorem dL_law_774 : decode cL_law 774 = .ok (.iadd, 1) := by decide +kernel
theorem dL_law_775 : decode cL_law 775 = .ok (.iaload, 1) := by decide +kernel
theorem dL_law_776 : decode cL_law 776 = .ok (.invokevirtual 93, 3) := by decide +kernel
theorem dL_law_779 : decode cL_law 779 = .ok (.aload_n 2, 1) := by decide +kernel
theorem dL_law_780 : decode cL_law 780 = .ok (.aload_n 0, 1) := by decide +kernel
theorem dL_law_781 : decode cL_law 781 = .ok (.iload 4, 2) := by decide +kernel
theorem dL_law_783 : decode cL_law 783 = .ok (.iconst 1, 1) := by decide +kernel
theorem dL_law_784 : decode cL_law 784 = .ok (.iadd, 1) := by decide +kernel
theorem dL_law_785 : decode cL_law 785 = .ok (.iaload, 1) := by decide +kernel
theorem dL_law_786 : decode cL_law 786 = .ok (.aload_n 0, 1) := by decide +kernel
theorem dL_law_787 : decode cL_law 787 = .ok (.iload 4, 2) := by decide +kernel
theorem dL_law_789 : decode cL_law 789 = .ok (.iconst 2, 1) := by decide +kernel
theorem dL_law_790 : decode cL_law 790 = .ok (.iadd, 1) := by decide +kernel
theorem dL_law_791 : decode cL_law 791 = .ok (.iaload, 1) := by decide +kernel
theorem dL_law_792 : decode cL_law 792 = .ok (.aload_n 0, 1) := by decide +kernel
theorem dL_law_793 : decode cL_law 793 = .ok (.iload 4, 2) := by decide +kernel
theorem dL_law_795 : decode cL_law 795 = .ok (.iconst 3, 1) := by decide +kernel
theorem dL_law_796 : decode cL_law 796 = .ok (.iadd, 1) := by decide +kernel
theorem dL_law_797 : decode cL_law 797 = .ok (.iaload, 1) := by decide +kernel
theorem dL_law_798 : decode cL_law 798 = .ok (.aload_n 0, 1) := by decide +kernel
theorem dL_law_799 : decode cL_law 799 = .ok (.iload 4, 2) := by decide +kernel
theorem dL_law_801 : decode cL_law 801 = .ok (.iconst 4, 1) := by decide +kernel
theorem dL_law_802 : decode cL_law 802 = .ok (.iadd, 1) := by decide +kernel
theorem dL_law_803 : decode cL_law 803 = .ok (.iaload, 1) := by decide +kernel
theorem dL_law_804 : decode cL_law 804 = .ok (.aload_n 0, 1) := by decide +kernel
theorem dL_law_805 : decode cL_law 805 = .ok (.iload 4, 2) := by decide +kernel
theorem dL_law_807 : decode cL_law 807 = .ok (.iconst 5, 1) := by decide +kernel
theorem dL_law_808 : decode cL_law 808 = .ok (.iadd, 1) := by decide +kernel
theorem dL_law_809 : decode cL_law 809 = .ok (.iaload, 1) := by decide +kernel
theorem dL_law_810 : decode cL_law 810 = .ok (.invokevirtual 97, 3) := by decide +kernel
theorem dL_law_813 : decode cL_law 813 = .ok (.if_icmp .eq 578, 3) := by decide +kernel
theorem dL_law_816 : decode cL_law 816 = .ok (.iconst 0, 1) := by decide +kernel
theorem dL_law_817 : decode cL_law 817 = .ok (.ireturn, 1) := by decide +kernel
theorem dL_law_818 : decode cL_law 818 = .ok (.aload_n 1, 1) := by decide +kernel
theorem dL_law_819 : decode cL_law 819 = .ok (.invokevirtual 98, 3) := by decide +kernel
theorem dL_law_822 : decode cL_law 822 = .ok (.aload_n 2, 1) := by decide +kernel
theorem dL_law_823 : decode cL_law 823 = .ok (.invokevirtual 101, 3) := by decide +kernel
theorem dL_law_826 : decode cL_law 826 = .ok (.if_icmp .eq 565, 3) := by decide +kernel
theorem dL_law_829 : decode cL_law 829 = .ok (.iconst 0, 1) := by decide +kernel
theorem dL_law_830 : decode cL_law 830 = .ok (.ireturn, 1) := by decide +kernel
theorem dL_law_831 : decode cL_law 831 = .ok (.aload_n 1, 1) := by decide +kernel
theorem dL_law_832 : decode cL_law 832 = .ok (.aload_n 0, 1) := by decide +kernel
theorem dL_law_833 : decode cL_law 833 = .ok (.iload 4, 2) := by decide +kernel
theorem dL_law_835 : decode cL_law 835 = .ok (.iconst 1, 1) := by decide +kernel
theorem dL_law_836 : decode cL_law 836 = .ok (.iadd, 1) := by decide +kernel
theorem dL_law_837 : decode cL_law 837 = .ok (.iaload, 1) := by decide +kernel
theorem dL_law_838 : decode cL_law 838 = .ok (.invokevirtual 102, 3) := by decide +kernel
theorem dL_law_841 : decode cL_law 841 = .ok (.aload_n 2, 1) := by decide +kernel
theorem dL_law_842 : decode cL_law 842 = .ok (.aload_n 0, 1) := by decide +kernel
theorem dL_law_843 : decode cL_law 843 = .ok (.iload 4, 2) := by decide +kernel
theorem dL_law_845 : decode cL_law 845 = .ok (.iconst 1, 1) := by decide +kernel
theorem dL_law_846 : decode cL_law 846 = .ok (.iadd, 1) := by decide +kernel
theorem dL_law_847 : decode cL_law 847 = .ok (.iaload, 1) := by decide +kernel
theorem dL_law_848 : decode cL_law 848 = .ok (.invokevirtual 105, 3) := by decide +kernel
theorem dL_law_851 : decode cL_law 851 = .ok (.if_icmp .eq 540, 3) := by decide +kernel
theorem dL_law_854 : decode cL_law 854 = .ok (.iconst 0, 1) := by decide +kernel
theorem dL_law_855 : decode cL_law 855 = .ok (.ireturn, 1) := by decide +kernel
theorem dL_law_856 : decode cL_law 856 = .ok (.aload_n 1, 1) := by decide +kernel
theorem dL_law_857 : decode cL_law 857 = .ok (.aload_n 0, 1) := by decide +kernel
theorem dL_law_858 : decode cL_law 858 = .ok (.iload 4, 2) := by decide +kernel
theorem dL_law_860 : decode cL_law 860 = .ok (.iconst 1, 1) := by decide +kernel
theorem dL_law_861 : decode cL_law 861 = .ok (.iadd, 1) := by decide +kernel
theorem dL_law_862 : decode cL_law 862 = .ok (.iaload, 1) := by decide +kernel
theorem dL_law_863 : decode cL_law 863 = .ok (.aload_n 0, 1) := by decide +kernel
theorem dL_law_864 : decode cL_law 864 = .ok (.iload 4, 2) := by decide +kernel
theorem dL_law_866 : decode cL_law 866 = .ok (.iconst 2, 1) := by decide +kernel
theorem dL_law_867 : decode cL_law 867 = .ok (.iadd, 1) := by decide +kernel
theorem dL_law_868 : decode cL_law 868 = .ok (.iaload, 1) := by decide +kernel
theorem dL_law_869 : decode cL_law 869 = .ok (.aload_n 0, 1) := by decide +kernel
theorem dL_law_870 : decode cL_law 870 = .ok (.iload 4, 2) := by decide +kernel
theorem dL_law_872 : decode cL_law 872 = .ok (.iconst 3, 1) := by decide +kernel
theorem dL_law_873 : decode cL_law 873 = .ok (.iadd, 1) := by decide +kernel
theorem dL_law_874 : decode cL_law 874 = .ok (.iaload, 1) := by decide +kernel
theorem dL_law_875 : decode cL_law 875 = .ok (.invokevirtual 106, 3) := by decide +kernel
theorem dL_law_878 : decode cL_law 878 = .ok (.aload_n 2, 1) := by decide +kernel
theorem dL_law_879 : decode cL_law 879 = .ok (.aload_n 0, 1) := by decide +kernel
theorem dL_law_880 : decode cL_law 880 = .ok (.iload 4, 2) := by decide +kernel
theorem dL_law_882 : decode cL_law 882 = .ok (.iconst 1, 1) := by decide +kernel
theorem dL_law_883 : decode cL_law 883 = .ok (.iadd, 1) := by decide +kernel
theorem dL_law_884 : decode cL_law 884 = .ok (.iaload, 1) := by decide +kernel
theorem dL_law_885 : decode cL_law 885 = .ok (.aload_n 0, 1) := by decide +kernel
theorem dL_law_886 : decode cL_law 886 = .ok (.iload 4, 2) := by decide +kernel
theorem dL_law_888 : decode cL_law 888 = .ok (.iconst 2, 1) := by decide +kernel
theorem dL_law_889 : decode cL_law 889 = .ok (.iadd, 1) := by decide +kernel
theorem dL_law_890 : decode cL_law 890 = .ok (.iaload, 1) := by decide +kernel
theorem dL_law_891 : decode cL_law 891 = .ok (.aload_n 0, 1) := by decide +kernel
theorem dL_law_892 : decode cL_law 892 = .ok (.iload 4, 2) := by decide +kernel
theorem dL_law_894 : decode cL_law 894 = .ok (.iconst 3, 1) := by decide +kernel
theorem dL_law_895 : decode cL_law 895 = .ok (.iadd, 1) := by decide +kernel
theorem dL_law_896 : decode cL_law 896 = .ok (.iaload, 1) := by decide +kernel
theorem dL_law_897 : decode cL_law 897 = .ok (.invokevirtual 109, 3) := by decide +kernel
theorem dL_law_900 : decode cL_law 900 = .ok (.if_icmp .eq 491, 3) := by decide +kernel
theorem dL_law_903 : decode cL_law 903 = .ok (.iconst 0, 1) := by decide +kernel
theorem dL_law_904 : decode cL_law 904 = .ok (.ireturn, 1) := by decide +kernel
theorem dL_law_905 : decode cL_law 905 = .ok (.aload_n 1, 1) := by decide +kernel
theorem dL_law_906 : decode cL_law 906 = .ok (.aload_n 0, 1) := by decide +kernel
theorem dL_law_907 : decode cL_law 907 = .ok (.iload 4, 2) := by decide +kernel
theorem dL_law_909 : decode cL_law 909 = .ok (.iconst 1, 1) := by decide +kernel
theorem dL_law_910 : decode cL_law 910 = .ok (.iadd, 1) := by decide +kernel
theorem dL_law_911 : decode cL_law 911 = .ok (.iaload, 1) := by decide +kernel
theorem dL_law_912 : decode cL_law 912 = .ok (.aload_n 0, 1) := by decide +kernel
theorem dL_law_913 : decode cL_law 913 = .ok (.iload 4, 2) := by decide +kernel
theorem dL_law_915 : decode cL_law 915 = .ok (.iconst 2, 1) := by decide +kernel
theorem dL_law_916 : decode cL_law 916 = .ok (.iadd, 1) := by decide +kernel
theorem dL_law_917 : decode cL_law 917 = .ok (.iaload, 1) := by decide +kernel
theorem dL_law_918 : decode cL_law 918 = .ok (.aload_n 0, 1) := by decide +kernel
theorem dL_law_919 : decode cL_law 919 = .ok (.iload 4, 2) := by decide +kernel
theorem dL_law_921 : decode cL_law 921 = .ok (.iconst 3, 1) := by decide +kernel
theorem dL_law_922 : decode cL_law 922 = .ok (.iadd, 1) := by decide +kernel
theorem dL_law_923 : decode cL_law 923 = .ok (.iaload, 1) := by decide +kernel
theorem dL_law_924 : decode cL_law 924 = .ok (.invokevirtual 110, 3) := by decide +kernel
theorem dL_law_927 : decode cL_law 927 = .ok (.aload_n 2, 1) := by decide +kernel
theorem dL_law_928 : decode cL_law 928 = .ok (.aload_n 0, 1) := by decide +kernel
theorem dL_law_929 : decode cL_law 929 = .ok (.iload 4, 2) := by decide +kernel
theorem dL_law_931 : decode cL_law 931 = .ok (.iconst 1, 1) := by decide +kernel
theorem dL_law_932 : decode cL_law 932 = .ok (.iadd, 1) := by decide +kernel
theorem dL_law_933 : decode cL_law 933 = .ok (.iaload, 1) := by decide +kernel
theorem dL_law_934 : decode cL_law 934 = .ok (.aload_n 0, 1) := by decide +kernel
theorem dL_law_935 : decode cL_law 935 = .ok (.iload 4, 2) := by decide +kernel
theorem dL_law_937 : decode cL_law 937 = .ok (.iconst 2, 1) := by decide +kernel
theorem dL_law_938 : decode cL_law 938 = .ok (.iadd, 1) := by decide +kernel
theorem dL_law_939 : decode cL_law 939 = .ok (.iaload, 1) := by decide +kernel
theorem dL_law_940 : decode cL_law 940 = .ok (.aload_n 0, 1) := by decide +kernel
theorem dL_law_941 : decode cL_law 941 = .ok (.iload 4, 2) := by decide +kernel
theorem dL_law_943 : decode cL_law 943 = .ok (.iconst 3, 1) := by decide +kernel
theorem dL_law_944 : decode cL_law 944 = .ok (.iadd, 1) := by decide +kernel
theorem dL_law_945 : decode cL_law 945 = .ok (.iaload, 1) := by decide +kernel
theorem dL_law_946 : decode cL_law 946 = .ok (.invokevirtual 113, 3) := by decide +kernel
theorem dL_law_949 : decode cL_law 949 = .ok (.if_icmp .eq 442, 3) := by decide +kernel
theorem dL_law_952 : decode cL_law 952 = .ok (.iconst 0, 1) := by decide +kernel
theorem dL_law_953 : decode cL_law 953 = .ok (.ireturn, 1) := by decide +kernel
theorem dL_law_954 : decode cL_law 954 = .ok (.aload_n 1, 1) := by decide +kernel
theorem dL_law_955 : decode cL_law 955 = .ok (.aload_n 0, 1) := by decide +kernel
theorem dL_law_956 : decode cL_law 956 = .ok (.iload 4, 2) := by decide +kernel
theorem dL_law_958 : decode cL_law 958 = .ok (.iconst 1, 1) := by decide +kernel
theorem dL_law_959 : decode cL_law 959 = .ok (.iadd, 1) := by decide +kernel
theorem dL_law_960 : decode cL_law 960 = .ok (.iaload, 1) := by decide +kernel
theorem dL_law_961 : decode cL_law 961 = .ok (.aload_n 0, 1) := by decide +kernel
theorem dL_law_962 : decode cL_law 962 = .ok (.iload 4, 2) := by decide +kernel
theorem dL_law_964 : decode cL_law 964 = .ok (.iconst 2, 1) := by decide +kernel
theorem dL_law_965 : decode cL_law 965 = .ok (.iadd, 1) := by decide +kernel
theorem dL_law_966 : decode cL_law 966 = .ok (.iaload, 1) := by decide +kernel
theorem dL_law_967 : decode cL_law 967 = .ok (.aload_n 0, 1) := by decide +kernel
theorem dL_law_968 : decode cL_law 968 = .ok (.iload 4, 2) := by decide +kernel
theorem dL_law_970 : decode cL_law 970 = .ok (.iconst 3, 1) := by decide +kernel
theorem dL_law_971 : decode cL_law 971 = .ok (.iadd, 1) := by decide +kernel
theorem dL_law_972 : decode cL_law 972 = .ok (.iaload, 1) := by decide +kernel
theorem dL_law_973 : decode cL_law 973 = .ok (.invokevirtual 114, 3) := by decide +kernel
theorem dL_law_976 : decode cL_law 976 = .ok (.aload_n 2, 1) := by decide +kernel
theorem dL_law_977 : decode cL_law 977 = .ok (.aload_n 0, 1) := by decide +kernel
theorem dL_law_978 : decode cL_law 978 = .ok (.iload 4, 2) := by decide +kernel
theorem dL_law_980 : decode cL_law 980 = .ok (.iconst 1, 1) := by decide +kernel
theorem dL_law_981 : decode cL_law 981 = .ok (.iadd, 1) := by decide +kernel
theorem dL_law_982 : decode cL_law 982 = .ok (.iaload, 1) := by decide +kernel
theorem dL_law_983 : decode cL_law 983 = .ok (.aload_n 0, 1) := by decide +kernel
theorem dL_law_984 : decode cL_law 984 = .ok (.iload 4, 2) := by decide +kernel
theorem dL_law_986 : decode cL_law 986 = .ok (.iconst 2, 1) := by decide +kernel
theorem dL_law_987 : decode cL_law 987 = .ok (.iadd, 1) := by decide +kernel
theorem dL_law_988 : decode cL_law 988 = .ok (.iaload, 1) := by decide +kernel
theorem dL_law_989 : decode cL_law 989 = .ok (.aload_n 0, 1) := by decide +kernel
theorem dL_law_990 : decode cL_law 990 = .ok (.iload 4, 2) := by decide +kernel
theorem dL_law_992 : decode cL_law 992 = .ok (.iconst 3, 1) := by decide +kernel
theorem dL_law_993 : decode cL_law 993 = .ok (.iadd, 1) := by decide +kernel
theorem dL_law_994 : decode cL_law 994 = .ok (.iaload, 1) := by decide +kernel
theorem dL_law_995 : decode cL_law 995 = .ok (.invokevirtual 117, 3) := by decide +kernel
theorem dL_law_998 : decode cL_law 998 = .ok (.if_icmp .eq 393, 3) := by decide +kernel
theorem dL_law_1001 : decode cL_law 1001 = .ok (.iconst 0, 1) := by decide +kernel
theorem dL_law_1002 : decode cL_law 1002 = .ok (.ireturn, 1) := by decide +kernel
theorem dL_law_1003 : decode cL_law 1003 = .ok (.aload_n 1, 1) := by decide +kernel
theorem dL_law_1004 : decode cL_law 1004 = .ok (.invokevirtual 118, 3) := by decide +kernel
theorem dL_law_1007 : decode cL_law 1007 = .ok (.aload_n 2, 1) := by decide +kernel
theorem dL_law_1008 : decode cL_law 1008 = .ok (.invokevirtual 121, 3) := by decide +kernel
theorem dL_law_1011 : decode cL_law 1011 = .ok (.if_icmp .eq 380, 3) := by decide +kernel
theorem dL_law_1014 : decode cL_law 1014 = .ok (.iconst 0, 1) := by decide +kernel
theorem dL_law_1015 : decode cL_law 1015 = .ok (.ireturn, 1) := by decide +kernel
theorem dL_law_1016 : decode cL_law 1016 = .ok (.aload_n 1, 1) := by decide +kernel
theorem dL_law_1017 : decode cL_law 1017 = .ok (.invokevirtual 122, 3) := by decide +kernel
theorem dL_law_1020 : decode cL_law 1020 = .ok (.aload_n 2, 1) := by decide +kernel
theorem dL_law_1021 : decode cL_law 1021 = .ok (.invokevirtual 125, 3) := by decide +kernel
theorem dL_law_1024 : decode cL_law 1024 = .ok (.if_icmp .eq 367, 3) := by decide +kernel
theorem dL_law_1027 : decode cL_law 1027 = .ok (.iconst 0, 1) := by decide +kernel
theorem dL_law_1028 : decode cL_law 1028 = .ok (.ireturn, 1) := by decide +kernel
theorem dL_law_1029 : decode cL_law 1029 = .ok (.aload_n 1, 1) := by decide +kernel
theorem dL_law_1030 : decode cL_law 1030 = .ok (.aload_n 0, 1) := by decide +kernel
theorem dL_law_1031 : decode cL_law 1031 = .ok (.iload 4, 2) := by decide +kernel
theorem dL_law_1033 : decode cL_law 1033 = .ok (.iconst 1, 1) := by decide +kernel
theorem dL_law_1034 : decode cL_law 1034 = .ok (.iadd, 1) := by decide +kernel
theorem dL_law_1035 : decode cL_law 1035 = .ok (.iaload, 1) := by decide +kernel
theorem dL_law_1036 : decode cL_law 1036 = .ok (.invokevirtual 126, 3) := by decide +kernel
theorem dL_law_1039 : decode cL_law 1039 = .ok (.aload_n 2, 1) := by decide +kernel
theorem dL_law_1040 : decode cL_law 1040 = .ok (.aload_n 0, 1) := by decide +kernel
theorem dL_law_1041 : decode cL_law 1041 = .ok (.iload 4, 2) := by decide +kernel
theorem dL_law_1043 : decode cL_law 1043 = .ok (.iconst 1, 1) := by decide +kernel
theorem dL_law_1044 : decode cL_law 1044 = .ok (.iadd, 1) := by decide +kernel
theorem dL_law_1045 : decode cL_law 1045 = .ok (.iaload, 1) := by decide +kernel
theorem dL_law_1046 : decode cL_law 1046 = .ok (.invokevirtual 129, 3) := by decide +kernel
theorem dL_law_1049 : decode cL_law 1049 = .ok (.if_icmp .eq 342, 3) := by decide +kernel
theorem dL_law_1052 : decode cL_law 1052 = .ok (.iconst 0, 1) := by decide +kernel
theorem dL_law_1053 : decode cL_law 1053 = .ok (.ireturn, 1) := by decide +kernel
theorem dL_law_1054 : decode cL_law 1054 = .ok (.aload_n 1, 1) := by decide +kernel
theorem dL_law_1055 : decode cL_law 1055 = .ok (.aload_n 0, 1) := by decide +kernel
theorem dL_law_1056 : decode cL_law 1056 = .ok (.iload 4, 2) := by decide +kernel
theorem dL_law_1058 : decode cL_law 1058 = .ok (.iconst 1, 1) := by decide +kernel
theorem dL_law_1059 : decode cL_law 1059 = .ok (.iadd, 1) := by decide +kernel
theorem dL_law_1060 : decode cL_law 1060 = .ok (.iaload, 1) := by decide +kernel
theorem dL_law_1061 : decode cL_law 1061 = .ok (.aload_n 0, 1) := by decide +kernel
theorem dL_law_1062 : decode cL_law 1062 = .ok (.iload 4, 2) := by decide +kernel
theorem dL_law_1064 : decode cL_law 1064 = .ok (.iconst 2, 1) := by decide +kernel
theorem dL_law_1065 : decode cL_law 1065 = .ok (.iadd, 1) := by decide +kernel
theorem dL_law_1066 : decode cL_law 1066 = .ok (.iaload, 1) := by decide +kernel
theorem dL_law_1067 : decode cL_law 1067 = .ok (.aload_n 0, 1) := by decide +kernel
theorem dL_law_1068 : decode cL_law 1068 = .ok (.iload 4, 2) := by decide +kernel
theorem dL_law_1070 : decode cL_law 1070 = .ok (.iconst 3, 1) := by decide +kernel
theorem dL_law_1071 : decode cL_law 1071 = .ok (.iadd, 1) := by decide +kernel
theorem dL_law_1072 : decode cL_law 1072 = .ok (.iaload, 1) := by decide +kernel
theorem dL_law_1073 : decode cL_law 1073 = .ok (.invokevirtual 130, 3) := by decide +kernel
theorem dL_law_1076 : decode cL_law 1076 = .ok (.aload_n 2, 1) := by decide +kernel
theorem dL_law_1077 : decode cL_law 1077 = .ok (.aload_n 0, 1) := by decide +kernel
theorem dL_law_1078 : decode cL_law 1078 = .ok (.iload 4, 2) := by decide +kernel
theorem dL_law_1080 : decode cL_law 1080 = .ok (.iconst 1, 1) := by decide +kernel
theorem dL_law_1081 : decode cL_law 1081 = .ok (.iadd, 1) := by decide +kernel
theorem dL_law_1082 : decode cL_law 1082 = .ok (.iaload, 1) := by decide +kernel
theorem dL_law_1083 : decode cL_law 1083 = .ok (.aload_n 0, 1) := by decide +kernel
theorem dL_law_1084 : decode cL_law 1084 = .ok (.iload 4, 2) := by decide +kernel
theorem dL_law_1086 : decode cL_law 1086 = .ok (.iconst 2, 1) := by decide +kernel
theorem dL_law_1087 : decode cL_law 1087 = .ok (.iadd, 1) := by decide +kernel
theorem dL_law_1088 : decode cL_law 1088 = .ok (.iaload, 1) := by decide +kernel
theorem dL_law_1089 : decode cL_law 1089 = .ok (.aload_n 0, 1) := by decide +kernel
theorem dL_law_1090 : decode cL_law 1090 = .ok (.iload 4, 2) := by decide +kernel
theorem dL_law_1092 : decode cL_law 1092 = .ok (.iconst 3, 1) := by decide +kernel
theorem dL_law_1093 : decode cL_law 1093 = .ok (.iadd, 1) := by decide +kernel
theorem dL_law_1094 : decode cL_law 1094 = .ok (.iaload, 1) := by decide +kernel
theorem dL_law_1095 : decode cL_law 1095 = .ok (.invokevirtual 133, 3) := by decide +kernel
theorem dL_law_1098 : decode cL_law 1098 = .ok (.if_icmp .eq 293, 3) := by decide +kernel
theorem dL_law_1101 : decode cL_law 1101 = .ok (.iconst 0, 1) := by decide +kernel
theorem dL_law_1102 : decode cL_law 1102 = .ok (.ireturn, 1) := by decide +kernel
theorem dL_law_1103 : decode cL_law 1103 = .ok (.aload_n 1, 1) := by decide +kernel
theorem dL_law_1104 : decode cL_law 1104 = .ok (.aload_n 0, 1) := by decide +kernel
theorem dL_law_1105 : decode cL_law 1105 = .ok (.iload 4, 2) := by decide +kernel
theorem dL_law_1107 : decode cL_law 1107 = .ok (.iconst 1, 1) := by decide +kernel
theorem dL_law_1108 : decode cL_law 1108 = .ok (.iadd, 1) := by decide +kernel
theorem dL_law_1109 : decode cL_law 1109 = .ok (.iaload, 1) := by decide +kernel
theorem dL_law_1110 : decode cL_law 1110 = .ok (.aload_n 0, 1) := by decide +kernel
theorem dL_law_1111 : decode cL_law 1111 = .ok (.iload 4, 2) := by decide +kernel
theorem dL_law_1113 : decode cL_law 1113 = .ok (.iconst 2, 1) := by decide +kernel
theorem dL_law_1114 : decode cL_law 1114 = .ok (.iadd, 1) := by decide +kernel
theorem dL_law_1115 : decode cL_law 1115 = .ok (.iaload, 1) := by decide +kernel
theorem dL_law_1116 : decode cL_law 1116 = .ok (.aload_n 0, 1) := by decide +kernel
theorem dL_law_1117 : decode cL_law 1117 = .ok (.iload 4, 2) := by decide +kernel
theorem dL_law_1119 : decode cL_law 1119 = .ok (.iconst 3, 1) := by decide +kernel
theorem dL_law_1120 : decode cL_law 1120 = .ok (.iadd, 1) := by decide +kernel
theorem dL_law_1121 : decode cL_law 1121 = .ok (.iaload, 1) := by decide +kernel
theorem dL_law_1122 : decode cL_law 1122 = .ok (.invokevirtual 134, 3) := by decide +kernel
theorem dL_law_1125 : decode cL_law 1125 = .ok (.aload_n 2, 1) := by decide +kernel
theorem dL_law_1126 : decode cL_law 1126 = .ok (.aload_n 0, 1) := by decide +kernel
theorem dL_law_1127 : decode cL_law 1127 = .ok (.iload 4, 2) := by decide +kernel
theorem dL_law_1129 : decode cL_law 1129 = .ok (.iconst 1, 1) := by decide +kernel
theorem dL_law_1130 : decode cL_law 1130 = .ok (.iadd, 1) := by decide +kernel
theorem dL_law_1131 : decode cL_law 1131 = .ok (.iaload, 1) := by decide +kernel
theorem dL_law_1132 : decode cL_law 1132 = .ok (.aload_n 0, 1) := by decide +kernel
theorem dL_law_1133 : decode cL_law 1133 = .ok (.iload 4, 2) := by decide +kernel
theorem dL_law_1135 : decode cL_law 1135 = .ok (.iconst 2, 1) := by decide +kernel
theorem dL_law_1136 : decode cL_law 1136 = .ok (.iadd, 1) := by decide +kernel
theorem dL_law_1137 : decode cL_law 1137 = .ok (.iaload, 1) := by decide +kernel
theorem dL_law_1138 : decode cL_law 1138 = .ok (.aload_n 0, 1) := by decide +kernel
theorem dL_law_1139 : decode cL_law 1139 = .ok (.iload 4, 2) := by decide +kernel
theorem dL_law_1141 : decode cL_law 1141 = .ok (.iconst 3, 1) := by decide +kernel
theorem dL_law_1142 : decode cL_law 1142 = .ok (.iadd, 1) := by decide +kernel
theorem dL_law_1143 : decode cL_law 1143 = .ok (.iaload, 1) := by decide +kernel
theorem dL_law_1144 : decode cL_law 1144 = .ok (.invokevirtual 137, 3) := by decide +kernel
theorem dL_law_1147 : decode cL_law 1147 = .ok (.if_icmp .eq 244, 3) := by decide +kernel
theorem dL_law_1150 : decode cL_law 1150 = .ok (.iconst 0, 1) := by decide +kernel
theorem dL_law_1151 : decode cL_law 1151 = .ok (.ireturn, 1) := by decide +kernel
theorem dL_law_1152 : decode cL_law 1152 = .ok (.aload_n 1, 1) := by decide +kernel
theorem dL_law_1153 : decode cL_law 1153 = .ok (.aload_n 0, 1) := by decide +kernel
theorem dL_law_1154 : decode cL_law 1154 = .ok (.iload 4, 2) := by decide +kernel
theorem dL_law_1156 : decode cL_law 1156 = .ok (.iconst 1, 1) := by decide +kernel
theorem dL_law_1157 : decode cL_law 1157 = .ok (.iadd, 1) := by decide +kernel
theorem dL_law_1158 : decode cL_law 1158 = .ok (.iaload, 1) := by decide +kernel
theorem dL_law_1159 : decode cL_law 1159 = .ok (.aload_n 0, 1) := by decide +kernel
theorem dL_law_1160 : decode cL_law 1160 = .ok (.iload 4, 2) := by decide +kernel
theorem dL_law_1162 : decode cL_law 1162 = .ok (.iconst 2, 1) := by decide +kernel
theorem dL_law_1163 : decode cL_law 1163 = .ok (.iadd, 1) := by decide +kernel
theorem dL_law_1164 : decode cL_law 1164 = .ok (.iaload, 1) := by decide +kernel
theorem dL_law_1165 : decode cL_law 1165 = .ok (.aload_n 0, 1) := by decide +kernel
theorem dL_law_1166 : decode cL_law 1166 = .ok (.iload 4, 2) := by decide +kernel
theorem dL_law_1168 : decode cL_law 1168 = .ok (.iconst 3, 1) := by decide +kernel
theorem dL_law_1169 : decode cL_law 1169 = .ok (.iadd, 1) := by decide +kernel
theorem dL_law_1170 : decode cL_law 1170 = .ok (.iaload, 1) := by decide +kernel
theorem dL_law_1171 : decode cL_law 1171 = .ok (.invokevirtual 138, 3) := by decide +kernel
theorem dL_law_1174 : decode cL_law 1174 = .ok (.aload_n 2, 1) := by decide +kernel
theorem dL_law_1175 : decode cL_law 1175 = .ok (.aload_n 0, 1) := by decide +kernel
theorem dL_law_1176 : decode cL_law 1176 = .ok (.iload 4, 2) := by decide +kernel
theorem dL_law_1178 : decode cL_law 1178 = .ok (.iconst 1, 1) := by decide +kernel
theorem dL_law_1179 : decode cL_law 1179 = .ok (.iadd, 1) := by decide +kernel
theorem dL_law_1180 : decode cL_law 1180 = .ok (.iaload, 1) := by decide +kernel
theorem dL_law_1181 : decode cL_law 1181 = .ok (.aload_n 0, 1) := by decide +kernel
theorem dL_law_1182 : decode cL_law 1182 = .ok (.iload 4, 2) := by decide +kernel
theorem dL_law_1184 : decode cL_law 1184 = .ok (.iconst 2, 1) := by decide +kernel
theorem dL_law_1185 : decode cL_law 1185 = .ok (.iadd, 1) := by decide +kernel
theorem dL_law_1186 : decode cL_law 1186 = .ok (.iaload, 1) := by decide +kernel
theorem dL_law_1187 : decode cL_law 1187 = .ok (.aload_n 0, 1) := by decide +kernel
theorem dL_law_1188 : decode cL_law 1188 = .ok (.iload 4, 2) := by decide +kernel
theorem dL_law_1190 : decode cL_law 1190 = .ok (.iconst 3, 1) := by decide +kernel
theorem dL_law_1191 : decode cL_law 1191 = .ok (.iadd, 1) := by decide +kernel
theorem dL_law_1192 : decode cL_law 1192 = .ok (.iaload, 1) := by decide +kernel
theorem dL_law_1193 : decode cL_law 1193 = .ok (.invokevirtual 141, 3) := by decide +kernel
theorem dL_law_1196 : decode cL_law 1196 = .ok (.if_icmp .eq 195, 3) := by decide +kernel
theorem dL_law_1199 : decode cL_law 1199 = .ok (.iconst 0, 1) := by decide +kernel
theorem dL_law_1200 : decode cL_law 1200 = .ok (.ireturn, 1) := by decide +kernel
theorem dL_law_1201 : decode cL_law 1201 = .ok (.aload_n 1, 1) := by decide +kernel
theorem dL_law_1202 : decode cL_law 1202 = .ok (.aload_n 0, 1) := by decide +kernel
theorem dL_law_1203 : decode cL_law 1203 = .ok (.iload 4, 2) := by decide +kernel
theorem dL_law_1205 : decode cL_law 1205 = .ok (.iconst 1, 1) := by decide +kernel
theorem dL_law_1206 : decode cL_law 1206 = .ok (.iadd, 1) := by decide +kernel
theorem dL_law_1207 : decode cL_law 1207 = .ok (.iaload, 1) := by decide +kernel
theorem dL_law_1208 : decode cL_law 1208 = .ok (.aload_n 0, 1) := by decide +kernel
theorem dL_law_1209 : decode cL_law 1209 = .ok (.iload 4, 2) := by decide +kernel
theorem dL_law_1211 : decode cL_law 1211 = .ok (.iconst 2, 1) := by decide +kernel
theorem dL_law_1212 : decode cL_law 1212 = .ok (.iadd, 1) := by decide +kernel
theorem dL_law_1213 : decode cL_law 1213 = .ok (.iaload, 1) := by decide +kernel
theorem dL_law_1214 : decode cL_law 1214 = .ok (.aload_n 3, 1) := by decide +kernel
theorem dL_law_1215 : decode cL_law 1215 = .ok (.invokestatic 142, 3) := by decide +kernel
theorem dL_law_1218 : decode cL_law 1218 = .ok (.istore 5, 2) := by decide +kernel
theorem dL_law_1220 : decode cL_law 1220 = .ok (.aload_n 2, 1) := by decide +kernel
theorem dL_law_1221 : decode cL_law 1221 = .ok (.aload_n 0, 1) := by decide +kernel
theorem dL_law_1222 : decode cL_law 1222 = .ok (.iload 4, 2) := by decide +kernel
theorem dL_law_1224 : decode cL_law 1224 = .ok (.iconst 1, 1) := by decide +kernel
theorem dL_law_1225 : decode cL_law 1225 = .ok (.iadd, 1) := by decide +kernel
theorem dL_law_1226 : decode cL_law 1226 = .ok (.iaload, 1) := by decide +kernel
theorem dL_law_1227 : decode cL_law 1227 = .ok (.aload_n 0, 1) := by decide +kernel
theorem dL_law_1228 : decode cL_law 1228 = .ok (.iload 4, 2) := by decide +kernel
theorem dL_law_1230 : decode cL_law 1230 = .ok (.iconst 2, 1) := by decide +kernel
theorem dL_law_1231 : decode cL_law 1231 = .ok (.iadd, 1) := by decide +kernel
theorem dL_law_1232 : decode cL_law 1232 = .ok (.iaload, 1) := by decide +kernel
theorem dL_law_1233 : decode cL_law 1233 = .ok (.invokevirtual 147, 3) := by decide +kernel
theorem dL_law_1236 : decode cL_law 1236 = .ok (.lstore 6, 2) := by decide +kernel
theorem dL_law_1238 : decode cL_law 1238 = .ok (.aload_n 2, 1) := by decide +kernel
theorem dL_law_1239 : decode cL_law 1239 = .ok (.invokevirtual 148, 3) := by decide +kernel
theorem dL_law_1242 : decode cL_law 1242 = .ok (.iload 5, 2) := by decide +kernel
theorem dL_law_1244 : decode cL_law 1244 = .ok (.if_icmp .eq 5, 3) := by decide +kernel
theorem dL_law_1247 : decode cL_law 1247 = .ok (.iconst 0, 1) := by decide +kernel
theorem dL_law_1248 : decode cL_law 1248 = .ok (.ireturn, 1) := by decide +kernel
theorem dL_law_1249 : decode cL_law 1249 = .ok (.iload 5, 2) := by decide +kernel
theorem dL_law_1251 : decode cL_law 1251 = .ok (.ifCond .ne 14, 3) := by decide +kernel
theorem dL_law_1254 : decode cL_law 1254 = .ok (.aload_n 3, 1) := by decide +kernel
theorem dL_law_1255 : decode cL_law 1255 = .ok (.iconst 0, 1) := by decide +kernel
theorem dL_law_1256 : decode cL_law 1256 = .ok (.laload, 1) := by decide +kernel
theorem dL_law_1257 : decode cL_law 1257 = .ok (.lload 6, 2) := by decide +kernel
theorem dL_law_1259 : decode cL_law 1259 = .ok (.lcmp, 1) := by decide +kernel
theorem dL_law_1260 : decode cL_law 1260 = .ok (.ifCond .eq 5, 3) := by decide +kernel
theorem dL_law_1263 : decode cL_law 1263 = .ok (.iconst 0, 1) := by decide +kernel
theorem dL_law_1264 : decode cL_law 1264 = .ok (.ireturn, 1) := by decide +kernel
theorem dL_law_1265 : decode cL_law 1265 = .ok (.goto 126, 3) := by decide +kernel
theorem dL_law_1268 : decode cL_law 1268 = .ok (.aload_n 1, 1) := by decide +kernel
theorem dL_law_1269 : decode cL_law 1269 = .ok (.aload_n 0, 1) := by decide +kernel
theorem dL_law_1270 : decode cL_law 1270 = .ok (.iload 4, 2) := by decide +kernel
theorem dL_law_1272 : decode cL_law 1272 = .ok (.iconst 1, 1) := by decide +kernel
theorem dL_law_1273 : decode cL_law 1273 = .ok (.iadd, 1) := by decide +kernel
theorem dL_law_1274 : decode cL_law 1274 = .ok (.iaload, 1) := by decide +kernel
theorem dL_law_1275 : decode cL_law 1275 = .ok (.aload_n 0, 1) := by decide +kernel
theorem dL_law_1276 : decode cL_law 1276 = .ok (.iload 4, 2) := by decide +kernel
theorem dL_law_1278 : decode cL_law 1278 = .ok (.iconst 2, 1) := by decide +kernel
theorem dL_law_1279 : decode cL_law 1279 = .ok (.iadd, 1) := by decide +kernel
theorem dL_law_1280 : decode cL_law 1280 = .ok (.iaload, 1) := by decide +kernel
theorem dL_law_1281 : decode cL_law 1281 = .ok (.aload_n 0, 1) := by decide +kernel
theorem dL_law_1282 : decode cL_law 1282 = .ok (.iload 4, 2) := by decide +kernel
theorem dL_law_1284 : decode cL_law 1284 = .ok (.iconst 3, 1) := by decide +kernel
theorem dL_law_1285 : decode cL_law 1285 = .ok (.iadd, 1) := by decide +kernel
theorem dL_law_1286 : decode cL_law 1286 = .ok (.iaload, 1) := by decide +kernel
theorem dL_law_1287 : decode cL_law 1287 = .ok (.aload_n 0, 1) := by decide +kernel
theorem dL_law_1288 : decode cL_law 1288 = .ok (.iload 4, 2) := by decide +kernel
theorem dL_law_1290 : decode cL_law 1290 = .ok (.iconst 4, 1) := by decide +kernel
theorem dL_law_1291 : decode cL_law 1291 = .ok (.iadd, 1) := by decide +kernel
theorem dL_law_1292 : decode cL_law 1292 = .ok (.iaload, 1) := by decide +kernel
theorem dL_law_1293 : decode cL_law 1293 = .ok (.aload_n 0, 1) := by decide +kernel
theorem dL_law_1294 : decode cL_law 1294 = .ok (.iload 4, 2) := by decide +kernel
theorem dL_law_1296 : decode cL_law 1296 = .ok (.iconst 5, 1) := by decide +kernel
theorem dL_law_1297 : decode cL_law 1297 = .ok (.iadd, 1) := by decide +kernel
theorem dL_law_1298 : decode cL_law 1298 = .ok (.iaload, 1) := by decide +kernel
theorem dL_law_1299 : decode cL_law 1299 = .ok (.invokevirtual 151, 3) := by decide +kernel
theorem dL_law_1302 : decode cL_law 1302 = .ok (.aload_n 2, 1) := by decide +kernel
theorem dL_law_1303 : decode cL_law 1303 = .ok (.aload_n 0, 1) := by decide +kernel
theorem dL_law_1304 : decode cL_law 1304 = .ok (.iload 4, 2) := by decide +kernel
theorem dL_law_1306 : decode cL_law 1306 = .ok (.iconst 1, 1) := by decide +kernel
theorem dL_law_1307 : decode cL_law 1307 = .ok (.iadd, 1) := by decide +kernel
theorem dL_law_1308 : decode cL_law 1308 = .ok (.iaload, 1) := by decide +kernel
theorem dL_law_1309 : decode cL_law 1309 = .ok (.aload_n 0, 1) := by decide +kernel
theorem dL_law_1310 : decode cL_law 1310 = .ok (.iload 4, 2) := by decide +kernel
theorem dL_law_1312 : decode cL_law 1312 = .ok (.iconst 2, 1) := by decide +kernel
theorem dL_law_1313 : decode cL_law 1313 = .ok (.iadd, 1) := by decide +kernel
theorem dL_law_1314 : decode cL_law 1314 = .ok (.iaload, 1) := by decide +kernel
theorem dL_law_1315 : decode cL_law 1315 = .ok (.aload_n 0, 1) := by decide +kernel
theorem dL_law_1316 : decode cL_law 1316 = .ok (.iload 4, 2) := by decide +kernel
theorem dL_law_1318 : decode cL_law 1318 = .ok (.iconst 3, 1) := by decide +kernel
theorem dL_law_1319 : decode cL_law 1319 = .ok (.iadd, 1) := by decide +kernel
theorem dL_law_1320 : decode cL_law 1320 = .ok (.iaload, 1) := by decide +kernel
theorem dL_law_1321 : decode cL_law 1321 = .ok (.aload_n 0, 1) := by decide +kernel
theorem dL_law_1322 : decode cL_law 1322 = .ok (.iload 4, 2) := by decide +kernel
theorem dL_law_1324 : decode cL_law 1324 = .ok (.iconst 4, 1) := by decide +kernel
theorem dL_law_1325 : decode cL_law 1325 = .ok (.iadd, 1) := by decide +kernel
theorem dL_law_1326 : decode cL_law 1326 = .ok (.iaload, 1) := by decide +kernel
theorem dL_law_1327 : decode cL_law 1327 = .ok (.aload_n 0, 1) := by decide +kernel
theorem dL_law_1328 : decode cL_law 1328 = .ok (.iload 4, 2) := by decide +kernel
theorem dL_law_1330 : decode cL_law 1330 = .ok (.iconst 5, 1) := by decide +kernel
theorem dL_law_1331 : decode cL_law 1331 = .ok (.iadd, 1) := by decide +kernel
theorem dL_law_1332 : decode cL_law 1332 = .ok (.iaload, 1) := by decide +kernel
theorem dL_law_1333 : decode cL_law 1333 = .ok (.invokevirtual 154, 3) := by decide +kernel
theorem dL_law_1336 : decode cL_law 1336 = .ok (.if_icmp .eq 55, 3) := by decide +kernel
theorem dL_law_1339 : decode cL_law 1339 = .ok (.iconst 0, 1) := by decide +kernel
theorem dL_law_1340 : decode cL_law 1340 = .ok (.ireturn, 1) := by decide +kernel
theorem dL_law_1341 : decode cL_law 1341 = .ok (.aload_n 1, 1) := by decide +kernel
theorem dL_law_1342 : decode cL_law 1342 = .ok (.aload_n 0, 1) := by decide +kernel
theorem dL_law_1343 : decode cL_law 1343 = .ok (.iload 4, 2) := by decide +kernel
theorem dL_law_1345 : decode cL_law 1345 = .ok (.iconst 1, 1) := by decide +kernel
theorem dL_law_1346 : decode cL_law 1346 = .ok (.iadd, 1) := by decide +kernel
theorem dL_law_1347 : decode cL_law 1347 = .ok (.iaload, 1) := by decide +kernel
theorem dL_law_1348 : decode cL_law 1348 = .ok (.invokevirtual 155, 3) := by decide +kernel
theorem dL_law_1351 : decode cL_law 1351 = .ok (.aload_n 2, 1) := by decide +kernel
theorem dL_law_1352 : decode cL_law 1352 = .ok (.aload_n 0, 1) := by decide +kernel
theorem dL_law_1353 : decode cL_law 1353 = .ok (.iload 4, 2) := by decide +kernel
theorem dL_law_1355 : decode cL_law 1355 = .ok (.iconst 1, 1) := by decide +kernel
theorem dL_law_1356 : decode cL_law 1356 = .ok (.iadd, 1) := by decide +kernel
theorem dL_law_1357 : decode cL_law 1357 = .ok (.iaload, 1) := by decide +kernel
theorem dL_law_1358 : decode cL_law 1358 = .ok (.invokevirtual 158, 3) := by decide +kernel
theorem dL_law_1361 : decode cL_law 1361 = .ok (.if_icmp .eq 30, 3) := by decide +kernel
theorem dL_law_1364 : decode cL_law 1364 = .ok (.iconst 0, 1) := by decide +kernel
theorem dL_law_1365 : decode cL_law 1365 = .ok (.ireturn, 1) := by decide +kernel
theorem dL_law_1366 : decode cL_law 1366 = .ok (.aload_n 1, 1) := by decide +kernel
theorem dL_law_1367 : decode cL_law 1367 = .ok (.aload_n 0, 1) := by decide +kernel
theorem dL_law_1368 : decode cL_law 1368 = .ok (.iload 4, 2) := by decide +kernel
theorem dL_law_1370 : decode cL_law 1370 = .ok (.iconst 1, 1) := by decide +kernel
theorem dL_law_1371 : decode cL_law 1371 = .ok (.iadd, 1) := by decide +kernel
theorem dL_law_1372 : decode cL_law 1372 = .ok (.iaload, 1) := by decide +kernel
theorem dL_law_1373 : decode cL_law 1373 = .ok (.invokevirtual 159, 3) := by decide +kernel
theorem dL_law_1376 : decode cL_law 1376 = .ok (.aload_n 2, 1) := by decide +kernel
theorem dL_law_1377 : decode cL_law 1377 = .ok (.aload_n 0, 1) := by decide +kernel
theorem dL_law_1378 : decode cL_law 1378 = .ok (.iload 4, 2) := by decide +kernel
theorem dL_law_1380 : decode cL_law 1380 = .ok (.iconst 1, 1) := by decide +kernel
theorem dL_law_1381 : decode cL_law 1381 = .ok (.iadd, 1) := by decide +kernel
theorem dL_law_1382 : decode cL_law 1382 = .ok (.iaload, 1) := by decide +kernel
theorem dL_law_1383 : decode cL_law 1383 = .ok (.invokevirtual 162, 3) := by decide +kernel
theorem dL_law_1386 : decode cL_law 1386 = .ok (.if_icmp .eq 5, 3) := by decide +kernel
theorem dL_law_1389 : decode cL_law 1389 = .ok (.iconst 0, 1) := by decide +kernel
theorem dL_law_1390 : decode cL_law 1390 = .ok (.ireturn, 1) := by decide +kernel
theorem dL_law_1391 : decode cL_law 1391 = .ok (.iinc 4 6, 3) := by decide +kernel
theorem dL_law_1394 : decode cL_law 1394 = .ok (.goto (-1371), 3) := by decide +kernel
theorem dL_law_1397 : decode cL_law 1397 = .ok (.iconst 1, 1) := by decide +kernel
theorem dL_law_1398 : decode cL_law 1398 = .ok (.ireturn, 1) := by decide +kernel
end
section
/-! the words that methods may use; what stands where -/
def ab_TS : List Cond := lw_tbl.filter goodWord
theorem ab_TS_good : ∀ w ∈ ab_TS, goodWord w = true := fun _ h => (List.mem_filter.mp h).2
theorem ab_TS_tbl : ∀ w ∈ ab_TS, w ∈ lw_tbl := fun _ h => (List.mem_filter.mp h).1
theorem ab_TS_in {w : Cond} (h : w ∈ lw_tbl) (hg : goodWord w = true) : w ∈ ab_TS := List.mem_filter.mpr ⟨h, hg⟩
theorem tk_0 : ∀ w ∈ k2_sels lw_privs, w ∈ lw_tbl := fun _ h => List.mem_append_left _ h
theorem tk_1 : ∀ w ∈ tables_1_1, w ∈ lw_tbl := fun _ h => List.mem_append_right _ (List.mem_append_left _ h)
theorem tk_2 : ∀ w ∈ tables_1_2, w ∈ lw_tbl := fun _ h => List.mem_append_right _ (List.mem_append_right _ (List.mem_append_left _ h))
theorem tk_3 : ∀ w ∈ tables_1_3, w ∈ lw_tbl := fun _ h => List.mem_append_right _ (List.mem_append_right _ (List.mem_append_right _ (List.mem_append_left _ h)))
theorem tk_4 : ∀ w ∈ tables_1_4, w ∈ lw_tbl := fun _ h => List.mem_append_right _ (List.mem_append_right _ (List.mem_append_right _ (List.mem_append_right _ (List.mem_append_left _ h))))
theorem tk_5 : ∀ w ∈ tables_1_5, w ∈ lw_tbl := fun _ h => List.mem_append_right _ (List.mem_append_right _ (List.mem_append_right _ (List.mem_append_right _ (List.mem_append_right _ (List.mem_append_left _ h)))))
theorem tk_6 : ∀ w ∈ tables_1_6, w ∈ lw_tbl := fun _ h => List.mem_append_right _ (List.mem_append_right _ (List.mem_append_right _ (List.mem_append_right _ (List.mem_append_right _ (List.mem_append_right _ (List.mem_append_left _ h))))))
theorem tk_7 : ∀ w ∈ tables_1_7, w ∈ lw_tbl := fun _ h => List.mem_append_right _ (List.mem_append_right _ (List.mem_append_right _ (List.mem_append_right _ (List.mem_append_right _ (List.mem_append_right _ (List.mem_append_right _ h))))))
def ab_tab : List (Nat × Nat) := [(0, 0), (1, 0), (8, 8), (1, 0), (8, 8), (1, 0), (8, 8), (2, 0), (8, 16), (6, 16), (6, 16), (9, 8), (6, 5), (6, 241), (6, 241), (3, 0), (6, 100), (3, 0), (6, 100), (3, 0), (6, 100), (3, 0), (6, 100), (3, 0), (6, 100), (3, 0), (6, 100), (3, 0), (6, 100), (3, 0), (6, 100), (5, 0), (6, 47), (6, 47), (6, 47), (6, 8), (6, 8), (6, 8), (6, 800), (6, 8), (6, 8), (6, 3), (6, 16), (6, 16), (6, 16), (6, 16), (6, 16), (6, 5), (6, 16), (7, 1)]
def ab_fk (t : Nat) : List Nat := match t with
  | 0 => [4, 4, 4, 5, 12, 9, 9, 9, 0, 1]
  | 1 => [11, 0, 0, 0, 0, 0, 0, 0]
  | 2 => [11, 9, 9, 4, 0, 0, 0, 0, 0, 0, 0, 0, 0, 0]
  | 3 => [9, 7, 0, 0]
  | 4 => [0, 0, 0, 0, 0, 0, 0, 0, 0, 0, 1, 0, 0, 1]
  | 5 => [9, 9, 9, 9, 9, 9, 9, 9, 9, 1, 0, 0, 0, 0, 0, 0, 9, 0, 0, 9, 9, 9, 9, 9, 0, 0, 0, 0, 0, 0, 0, 0, 9, 0, 0, 1, 2, 0, 0, 9, 0]
  | _ => []
def ab_nests : List (String × Nat × MethodName × String) := [(RX11, 9, yX9_init, "BackwardYears"), (RX11, 24, yX10_init, "BackwardYears"), (RX11, 45, yX6_init, "BackwardYears"), (RX6, 34, yX11_at, "BackwardYears"), (RX10, 90, yX11_store, "BackwardYears"), (RX10, 120, yX11_at, "BackwardYears"), (RX6, 39, yX11_store, "BackwardYears")]
def ab_kids : List String := [RX0, RX2, RX3, RX4, RX5, RX7, RX8]
theorem tl_X0 : ∀ w ∈ u_ws RX0 TX0 14, w ∈ ab_TS := by
  intro w hw
  obtain ⟨k, hk, rfl⟩ := List.mem_map.mp hw
  have hk : k < 14 := List.mem_range.mp hk
  match k, hk with
  | 0, _ => exact ab_TS_in (tk_3 _ (List.mem_of_getElem? (i := 9) (by decide +kernel))) (by decide +kernel)
  | 1, _ => exact ab_TS_in (tk_3 _ (List.mem_of_getElem? (i := 10) (by decide +kernel))) (by decide +kernel)
  | 2, _ => exact ab_TS_in (tk_3 _ (List.mem_of_getElem? (i := 11) (by decide +kernel))) (by decide +kernel)
  | 3, _ => exact ab_TS_in (tk_3 _ (List.mem_of_getElem? (i := 12) (by decide +kernel))) (by decide +kernel)
  | 4, _ => exact ab_TS_in (tk_3 _ (List.mem_of_getElem? (i := 13) (by decide +kernel))) (by decide +kernel)
  | 5, _ => exact ab_TS_in (tk_3 _ (List.mem_of_getElem? (i := 14) (by decide +kernel))) (by decide +kernel)
  | 6, _ => exact ab_TS_in (tk_3 _ (List.mem_of_getElem? (i := 15) (by decide +kernel))) (by decide +kernel)
  | 7, _ => exact ab_TS_in (tk_3 _ (List.mem_of_getElem? (i := 16) (by decide +kernel))) (by decide +kernel)
  | 8, _ => exact ab_TS_in (tk_3 _ (List.mem_of_getElem? (i := 17) (by decide +kernel))) (by decide +kernel)
  | 9, _ => exact ab_TS_in (tk_3 _ (List.mem_of_getElem? (i := 18) (by decide +kernel))) (by decide +kernel)
  | 10, _ => exact ab_TS_in (tk_3 _ (List.mem_of_getElem? (i := 19) (by decide +kernel))) (by decide +kernel)
  | 11, _ => exact ab_TS_in (tk_3 _ (List.mem_of_getElem? (i := 20) (by decide +kernel))) (by decide +kernel)
  | 12, _ => exact ab_TS_in (tk_3 _ (List.mem_of_getElem? (i := 21) (by decide +kernel))) (by decide +kernel)
  | 13, _ => exact ab_TS_in (tk_3 _ (List.mem_of_getElem? (i := 22) (by decide +kernel))) (by decide +kernel)
theorem tl_X1 : ∀ w ∈ u_ws RX1 TX1 14, w ∈ ab_TS := by
  intro w hw
  obtain ⟨k, hk, rfl⟩ := List.mem_map.mp hw
  have hk : k < 14 := List.mem_range.mp hk
  match k, hk with
  | 0, _ => exact ab_TS_in (tk_2 _ (List.mem_of_getElem? (i := 130) (by decide +kernel))) (by decide +kernel)
  | 1, _ => exact ab_TS_in (tk_2 _ (List.mem_of_getElem? (i := 132) (by decide +kernel))) (by decide +kernel)
  | 2, _ => exact ab_TS_in (tk_2 _ (List.mem_of_getElem? (i := 134) (by decide +kernel))) (by decide +kernel)
  | 3, _ => exact ab_TS_in (tk_2 _ (List.mem_of_getElem? (i := 136) (by decide +kernel))) (by decide +kernel)
  | 4, _ => exact ab_TS_in (tk_2 _ (List.mem_of_getElem? (i := 138) (by decide +kernel))) (by decide +kernel)
  | 5, _ => exact ab_TS_in (tk_2 _ (List.mem_of_getElem? (i := 140) (by decide +kernel))) (by decide +kernel)
  | 6, _ => exact ab_TS_in (tk_2 _ (List.mem_of_getElem? (i := 142) (by decide +kernel))) (by decide +kernel)
  | 7, _ => exact ab_TS_in (tk_2 _ (List.mem_of_getElem? (i := 144) (by decide +kernel))) (by decide +kernel)
  | 8, _ => exact ab_TS_in (tk_2 _ (List.mem_of_getElem? (i := 146) (by decide +kernel))) (by decide +kernel)
  | 9, _ => exact ab_TS_in (tk_2 _ (List.mem_of_getElem? (i := 148) (by decide +kernel))) (by decide +kernel)
  | 10, _ => exact ab_TS_in (tk_2 _ (List.mem_of_getElem? (i := 150) (by decide +kernel))) (by decide +kernel)
  | 11, _ => exact ab_TS_in (tk_2 _ (List.mem_of_getElem? (i := 152) (by decide +kernel))) (by decide +kernel)
  | 12, _ => exact ab_TS_in (tk_2 _ (List.mem_of_getElem? (i := 154) (by decide +kernel))) (by decide +kernel)
  | 13, _ => exact ab_TS_in (tk_2 _ (List.mem_of_getElem? (i := 156) (by decide +kernel))) (by decide +kernel)
theorem tl_X2 : ∀ w ∈ u_ws RX2 TX2 14, w ∈ ab_TS := by
  intro w hw
  obtain ⟨k, hk, rfl⟩ := List.mem_map.mp hw
  have hk : k < 14 := List.mem_range.mp hk
  match k, hk with
  | 0, _ => exact ab_TS_in (tk_2 _ (List.mem_of_getElem? (i := 207) (by decide +kernel))) (by decide +kernel)
  | 1, _ => exact ab_TS_in (tk_2 _ (List.mem_of_getElem? (i := 208) (by decide +kernel))) (by decide +kernel)
  | 2, _ => exact ab_TS_in (tk_2 _ (List.mem_of_getElem? (i := 209) (by decide +kernel))) (by decide +kernel)
  | 3, _ => exact ab_TS_in (tk_2 _ (List.mem_of_getElem? (i := 210) (by decide +kernel))) (by decide +kernel)
  | 4, _ => exact ab_TS_in (tk_2 _ (List.mem_of_getElem? (i := 211) (by decide +kernel))) (by decide +kernel)
  | 5, _ => exact ab_TS_in (tk_2 _ (List.mem_of_getElem? (i := 212) (by decide +kernel))) (by decide +kernel)
  | 6, _ => exact ab_TS_in (tk_2 _ (List.mem_of_getElem? (i := 213) (by decide +kernel))) (by decide +kernel)
  | 7, _ => exact ab_TS_in (tk_2 _ (List.mem_of_getElem? (i := 214) (by decide +kernel))) (by decide +kernel)
  | 8, _ => exact ab_TS_in (tk_2 _ (List.mem_of_getElem? (i := 215) (by decide +kernel))) (by decide +kernel)
  | 9, _ => exact ab_TS_in (tk_2 _ (List.mem_of_getElem? (i := 216) (by decide +kernel))) (by decide +kernel)
  | 10, _ => exact ab_TS_in (tk_2 _ (List.mem_of_getElem? (i := 217) (by decide +kernel))) (by decide +kernel)
  | 11, _ => exact ab_TS_in (tk_2 _ (List.mem_of_getElem? (i := 218) (by decide +kernel))) (by decide +kernel)
  | 12, _ => exact ab_TS_in (tk_2 _ (List.mem_of_getElem? (i := 219) (by decide +kernel))) (by decide +kernel)
  | 13, _ => exact ab_TS_in (tk_2 _ (List.mem_of_getElem? (i := 220) (by decide +kernel))) (by decide +kernel)
theorem tl_X3 : ∀ w ∈ u_ws RX3 TX3 14, w ∈ ab_TS := by
  intro w hw
  obtain ⟨k, hk, rfl⟩ := List.mem_map.mp hw
  have hk : k < 14 := List.mem_range.mp hk
  match k, hk with
  | 0, _ => exact ab_TS_in (tk_3 _ (List.mem_of_getElem? (i := 30) (by decide +kernel))) (by decide +kernel)
  | 1, _ => exact ab_TS_in (tk_3 _ (List.mem_of_getElem? (i := 31) (by decide +kernel))) (by decide +kernel)
  | 2, _ => exact ab_TS_in (tk_3 _ (List.mem_of_getElem? (i := 32) (by decide +kernel))) (by decide +kernel)
  | 3, _ => exact ab_TS_in (tk_3 _ (List.mem_of_getElem? (i := 33) (by decide +kernel))) (by decide +kernel)
  | 4, _ => exact ab_TS_in (tk_3 _ (List.mem_of_getElem? (i := 34) (by decide +kernel))) (by decide +kernel)
  | 5, _ => exact ab_TS_in (tk_3 _ (List.mem_of_getElem? (i := 35) (by decide +kernel))) (by decide +kernel)
  | 6, _ => exact ab_TS_in (tk_3 _ (List.mem_of_getElem? (i := 36) (by decide +kernel))) (by decide +kernel)
  | 7, _ => exact ab_TS_in (tk_3 _ (List.mem_of_getElem? (i := 37) (by decide +kernel))) (by decide +kernel)
  | 8, _ => exact ab_TS_in (tk_3 _ (List.mem_of_getElem? (i := 38) (by decide +kernel))) (by decide +kernel)
  | 9, _ => exact ab_TS_in (tk_3 _ (List.mem_of_getElem? (i := 39) (by decide +kernel))) (by decide +kernel)
  | 10, _ => exact ab_TS_in (tk_3 _ (List.mem_of_getElem? (i := 40) (by decide +kernel))) (by decide +kernel)
  | 11, _ => exact ab_TS_in (tk_3 _ (List.mem_of_getElem? (i := 41) (by decide +kernel))) (by decide +kernel)
  | 12, _ => exact ab_TS_in (tk_3 _ (List.mem_of_getElem? (i := 42) (by decide +kernel))) (by decide +kernel)
  | 13, _ => exact ab_TS_in (tk_3 _ (List.mem_of_getElem? (i := 43) (by decide +kernel))) (by decide +kernel)
theorem tl_X4 : ∀ w ∈ u_ws RX4 TX4 14, w ∈ ab_TS := by
  intro w hw
  obtain ⟨k, hk, rfl⟩ := List.mem_map.mp hw
  have hk : k < 14 := List.mem_range.mp hk
  match k, hk with
  | 0, _ => exact ab_TS_in (tk_2 _ (List.mem_of_getElem? (i := 165) (by decide +kernel))) (by decide +kernel)
  | 1, _ => exact ab_TS_in (tk_2 _ (List.mem_of_getElem? (i := 166) (by decide +kernel))) (by decide +kernel)
  | 2, _ => exact ab_TS_in (tk_2 _ (List.mem_of_getElem? (i := 167) (by decide +kernel))) (by decide +kernel)
  | 3, _ => exact ab_TS_in (tk_2 _ (List.mem_of_getElem? (i := 168) (by decide +kernel))) (by decide +kernel)
  | 4, _ => exact ab_TS_in (tk_2 _ (List.mem_of_getElem? (i := 169) (by decide +kernel))) (by decide +kernel)
  | 5, _ => exact ab_TS_in (tk_2 _ (List.mem_of_getElem? (i := 170) (by decide +kernel))) (by decide +kernel)
  | 6, _ => exact ab_TS_in (tk_2 _ (List.mem_of_getElem? (i := 171) (by decide +kernel))) (by decide +kernel)
  | 7, _ => exact ab_TS_in (tk_2 _ (List.mem_of_getElem? (i := 172) (by decide +kernel))) (by decide +kernel)
  | 8, _ => exact ab_TS_in (tk_2 _ (List.mem_of_getElem? (i := 173) (by decide +kernel))) (by decide +kernel)
  | 9, _ => exact ab_TS_in (tk_2 _ (List.mem_of_getElem? (i := 174) (by decide +kernel))) (by decide +kernel)
  | 10, _ => exact ab_TS_in (tk_2 _ (List.mem_of_getElem? (i := 175) (by decide +kernel))) (by decide +kernel)
  | 11, _ => exact ab_TS_in (tk_2 _ (List.mem_of_getElem? (i := 176) (by decide +kernel))) (by decide +kernel)
  | 12, _ => exact ab_TS_in (tk_2 _ (List.mem_of_getElem? (i := 177) (by decide +kernel))) (by decide +kernel)
  | 13, _ => exact ab_TS_in (tk_2 _ (List.mem_of_getElem? (i := 178) (by decide +kernel))) (by decide +kernel)
theorem tl_X5 : ∀ w ∈ u_ws RX5 TX5 14, w ∈ ab_TS := by
  intro w hw
  obtain ⟨k, hk, rfl⟩ := List.mem_map.mp hw
  have hk : k < 14 := List.mem_range.mp hk
  match k, hk with
  | 0, _ => exact ab_TS_in (tk_2 _ (List.mem_of_getElem? (i := 228) (by decide +kernel))) (by decide +kernel)
  | 1, _ => exact ab_TS_in (tk_2 _ (List.mem_of_getElem? (i := 229) (by decide +kernel))) (by decide +kernel)
  | 2, _ => exact ab_TS_in (tk_2 _ (List.mem_of_getElem? (i := 230) (by decide +kernel))) (by decide +kernel)
  | 3, _ => exact ab_TS_in (tk_2 _ (List.mem_of_getElem? (i := 231) (by decide +kernel))) (by decide +kernel)
  | 4, _ => exact ab_TS_in (tk_2 _ (List.mem_of_getElem? (i := 232) (by decide +kernel))) (by decide +kernel)
  | 5, _ => exact ab_TS_in (tk_2 _ (List.mem_of_getElem? (i := 233) (by decide +kernel))) (by decide +kernel)
  | 6, _ => exact ab_TS_in (tk_2 _ (List.mem_of_getElem? (i := 234) (by decide +kernel))) (by decide +kernel)
  | 7, _ => exact ab_TS_in (tk_2 _ (List.mem_of_getElem? (i := 235) (by decide +kernel))) (by decide +kernel)
  | 8, _ => exact ab_TS_in (tk_2 _ (List.mem_of_getElem? (i := 236) (by decide +kernel))) (by decide +kernel)
  | 9, _ => exact ab_TS_in (tk_2 _ (List.mem_of_getElem? (i := 237) (by decide +kernel))) (by decide +kernel)
  | 10, _ => exact ab_TS_in (tk_2 _ (List.mem_of_getElem? (i := 238) (by decide +kernel))) (by decide +kernel)
  | 11, _ => exact ab_TS_in (tk_2 _ (List.mem_of_getElem? (i := 239) (by decide +kernel))) (by decide +kernel)
  | 12, _ => exact ab_TS_in (tk_3 _ (List.mem_of_getElem? (i := 0) (by decide +kernel))) (by decide +kernel)
  | 13, _ => exact ab_TS_in (tk_3 _ (List.mem_of_getElem? (i := 1) (by decide +kernel))) (by decide +kernel)
theorem tl_X6 : ∀ w ∈ u_ws RX6 TX6 4, w ∈ ab_TS := by
  intro w hw
  obtain ⟨k, hk, rfl⟩ := List.mem_map.mp hw
  have hk : k < 4 := List.mem_range.mp hk
  match k, hk with
  | 0, _ => exact ab_TS_in (tk_1 _ (List.mem_of_getElem? (i := 147) (by decide +kernel))) (by decide +kernel)
  | 1, _ => exact ab_TS_in (tk_1 _ (List.mem_of_getElem? (i := 149) (by decide +kernel))) (by decide +kernel)
  | 2, _ => exact ab_TS_in (tk_1 _ (List.mem_of_getElem? (i := 151) (by decide +kernel))) (by decide +kernel)
  | 3, _ => exact ab_TS_in (tk_1 _ (List.mem_of_getElem? (i := 153) (by decide +kernel))) (by decide +kernel)
theorem tl_X7 : ∀ w ∈ u_ws RX7 TX7 14, w ∈ ab_TS := by
  intro w hw
  obtain ⟨k, hk, rfl⟩ := List.mem_map.mp hw
  have hk : k < 14 := List.mem_range.mp hk
  match k, hk with
  | 0, _ => exact ab_TS_in (tk_2 _ (List.mem_of_getElem? (i := 186) (by decide +kernel))) (by decide +kernel)
  | 1, _ => exact ab_TS_in (tk_2 _ (List.mem_of_getElem? (i := 187) (by decide +kernel))) (by decide +kernel)
  | 2, _ => exact ab_TS_in (tk_2 _ (List.mem_of_getElem? (i := 188) (by decide +kernel))) (by decide +kernel)
  | 3, _ => exact ab_TS_in (tk_2 _ (List.mem_of_getElem? (i := 189) (by decide +kernel))) (by decide +kernel)
  | 4, _ => exact ab_TS_in (tk_2 _ (List.mem_of_getElem? (i := 190) (by decide +kernel))) (by decide +kernel)
  | 5, _ => exact ab_TS_in (tk_2 _ (List.mem_of_getElem? (i := 191) (by decide +kernel))) (by decide +kernel)
  | 6, _ => exact ab_TS_in (tk_2 _ (List.mem_of_getElem? (i := 192) (by decide +kernel))) (by decide +kernel)
  | 7, _ => exact ab_TS_in (tk_2 _ (List.mem_of_getElem? (i := 193) (by decide +kernel))) (by decide +kernel)
  | 8, _ => exact ab_TS_in (tk_2 _ (List.mem_of_getElem? (i := 194) (by decide +kernel))) (by decide +kernel)
  | 9, _ => exact ab_TS_in (tk_2 _ (List.mem_of_getElem? (i := 195) (by decide +kernel))) (by decide +kernel)
  | 10, _ => exact ab_TS_in (tk_2 _ (List.mem_of_getElem? (i := 196) (by decide +kernel))) (by decide +kernel)
  | 11, _ => exact ab_TS_in (tk_2 _ (List.mem_of_getElem? (i := 197) (by decide +kernel))) (by decide +kernel)
  | 12, _ => exact ab_TS_in (tk_2 _ (List.mem_of_getElem? (i := 198) (by decide +kernel))) (by decide +kernel)
  | 13, _ => exact ab_TS_in (tk_2 _ (List.mem_of_getElem? (i := 199) (by decide +kernel))) (by decide +kernel)
theorem tl_X8 : ∀ w ∈ u_ws RX8 TX8 14, w ∈ ab_TS := by
  intro w hw
  obtain ⟨k, hk, rfl⟩ := List.mem_map.mp hw
  have hk : k < 14 := List.mem_range.mp hk
  match k, hk with
  | 0, _ => exact ab_TS_in (tk_3 _ (List.mem_of_getElem? (i := 51) (by decide +kernel))) (by decide +kernel)
  | 1, _ => exact ab_TS_in (tk_3 _ (List.mem_of_getElem? (i := 52) (by decide +kernel))) (by decide +kernel)
  | 2, _ => exact ab_TS_in (tk_3 _ (List.mem_of_getElem? (i := 53) (by decide +kernel))) (by decide +kernel)
  | 3, _ => exact ab_TS_in (tk_3 _ (List.mem_of_getElem? (i := 54) (by decide +kernel))) (by decide +kernel)
  | 4, _ => exact ab_TS_in (tk_3 _ (List.mem_of_getElem? (i := 55) (by decide +kernel))) (by decide +kernel)
  | 5, _ => exact ab_TS_in (tk_3 _ (List.mem_of_getElem? (i := 56) (by decide +kernel))) (by decide +kernel)
  | 6, _ => exact ab_TS_in (tk_3 _ (List.mem_of_getElem? (i := 57) (by decide +kernel))) (by decide +kernel)
  | 7, _ => exact ab_TS_in (tk_3 _ (List.mem_of_getElem? (i := 58) (by decide +kernel))) (by decide +kernel)
  | 8, _ => exact ab_TS_in (tk_3 _ (List.mem_of_getElem? (i := 59) (by decide +kernel))) (by decide +kernel)
  | 9, _ => exact ab_TS_in (tk_3 _ (List.mem_of_getElem? (i := 60) (by decide +kernel))) (by decide +kernel)
  | 10, _ => exact ab_TS_in (tk_3 _ (List.mem_of_getElem? (i := 61) (by decide +kernel))) (by decide +kernel)
  | 11, _ => exact ab_TS_in (tk_3 _ (List.mem_of_getElem? (i := 62) (by decide +kernel))) (by decide +kernel)
  | 12, _ => exact ab_TS_in (tk_3 _ (List.mem_of_getElem? (i := 63) (by decide +kernel))) (by decide +kernel)
  | 13, _ => exact ab_TS_in (tk_3 _ (List.mem_of_getElem? (i := 64) (by decide +kernel))) (by decide +kernel)
theorem tl_X9 : ∀ w ∈ u_ws RX9 TX9 8, w ∈ ab_TS := by
  intro w hw
  obtain ⟨k, hk, rfl⟩ := List.mem_map.mp hw
  have hk : k < 8 := List.mem_range.mp hk
  match k, hk with
  | 0, _ => exact ab_TS_in (tk_1 _ (List.mem_of_getElem? (i := 56) (by decide +kernel))) (by decide +kernel)
  | 1, _ => exact ab_TS_in (tk_1 _ (List.mem_of_getElem? (i := 58) (by decide +kernel))) (by decide +kernel)
  | 2, _ => exact ab_TS_in (tk_1 _ (List.mem_of_getElem? (i := 60) (by decide +kernel))) (by decide +kernel)
  | 3, _ => exact ab_TS_in (tk_1 _ (List.mem_of_getElem? (i := 62) (by decide +kernel))) (by decide +kernel)
  | 4, _ => exact ab_TS_in (tk_1 _ (List.mem_of_getElem? (i := 64) (by decide +kernel))) (by decide +kernel)
  | 5, _ => exact ab_TS_in (tk_1 _ (List.mem_of_getElem? (i := 66) (by decide +kernel))) (by decide +kernel)
  | 6, _ => exact ab_TS_in (tk_1 _ (List.mem_of_getElem? (i := 68) (by decide +kernel))) (by decide +kernel)
  | 7, _ => exact ab_TS_in (tk_1 _ (List.mem_of_getElem? (i := 70) (by decide +kernel))) (by decide +kernel)
theorem tl_X10 : ∀ w ∈ u_ws RX10 TX10 14, w ∈ ab_TS := by
  intro w hw
  obtain ⟨k, hk, rfl⟩ := List.mem_map.mp hw
  have hk : k < 14 := List.mem_range.mp hk
  match k, hk with
  | 0, _ => exact ab_TS_in (tk_1 _ (List.mem_of_getElem? (i := 101) (by decide +kernel))) (by decide +kernel)
  | 1, _ => exact ab_TS_in (tk_1 _ (List.mem_of_getElem? (i := 103) (by decide +kernel))) (by decide +kernel)
  | 2, _ => exact ab_TS_in (tk_1 _ (List.mem_of_getElem? (i := 105) (by decide +kernel))) (by decide +kernel)
  | 3, _ => exact ab_TS_in (tk_1 _ (List.mem_of_getElem? (i := 107) (by decide +kernel))) (by decide +kernel)
  | 4, _ => exact ab_TS_in (tk_1 _ (List.mem_of_getElem? (i := 109) (by decide +kernel))) (by decide +kernel)
  | 5, _ => exact ab_TS_in (tk_1 _ (List.mem_of_getElem? (i := 111) (by decide +kernel))) (by decide +kernel)
  | 6, _ => exact ab_TS_in (tk_1 _ (List.mem_of_getElem? (i := 113) (by decide +kernel))) (by decide +kernel)
  | 7, _ => exact ab_TS_in (tk_1 _ (List.mem_of_getElem? (i := 115) (by decide +kernel))) (by decide +kernel)
  | 8, _ => exact ab_TS_in (tk_1 _ (List.mem_of_getElem? (i := 117) (by decide +kernel))) (by decide +kernel)
  | 9, _ => exact ab_TS_in (tk_1 _ (List.mem_of_getElem? (i := 119) (by decide +kernel))) (by decide +kernel)
  | 10, _ => exact ab_TS_in (tk_1 _ (List.mem_of_getElem? (i := 121) (by decide +kernel))) (by decide +kernel)
  | 11, _ => exact ab_TS_in (tk_1 _ (List.mem_of_getElem? (i := 123) (by decide +kernel))) (by decide +kernel)
  | 12, _ => exact ab_TS_in (tk_1 _ (List.mem_of_getElem? (i := 125) (by decide +kernel))) (by decide +kernel)
  | 13, _ => exact ab_TS_in (tk_1 _ (List.mem_of_getElem? (i := 127) (by decide +kernel))) (by decide +kernel)
theorem tl_X11 : ∀ w ∈ u_ws RX11 TX11 10, w ∈ ab_TS := by
  intro w hw
  obtain ⟨k, hk, rfl⟩ := List.mem_map.mp hw
  have hk : k < 10 := List.mem_range.mp hk
  match k, hk with
  | 0, _ => exact ab_TS_in (tk_1 _ (List.mem_of_getElem? (i := 166) (by decide +kernel))) (by decide +kernel)
  | 1, _ => exact ab_TS_in (tk_1 _ (List.mem_of_getElem? (i := 168) (by decide +kernel))) (by decide +kernel)
  | 2, _ => exact ab_TS_in (tk_1 _ (List.mem_of_getElem? (i := 170) (by decide +kernel))) (by decide +kernel)
  | 3, _ => exact ab_TS_in (tk_1 _ (List.mem_of_getElem? (i := 172) (by decide +kernel))) (by decide +kernel)
  | 4, _ => exact ab_TS_in (tk_1 _ (List.mem_of_getElem? (i := 174) (by decide +kernel))) (by decide +kernel)
  | 5, _ => exact ab_TS_in (tk_1 _ (List.mem_of_getElem? (i := 176) (by decide +kernel))) (by decide +kernel)
  | 6, _ => exact ab_TS_in (tk_1 _ (List.mem_of_getElem? (i := 178) (by decide +kernel))) (by decide +kernel)
  | 7, _ => exact ab_TS_in (tk_1 _ (List.mem_of_getElem? (i := 180) (by decide +kernel))) (by decide +kernel)
  | 8, _ => exact ab_TS_in (tk_1 _ (List.mem_of_getElem? (i := 182) (by decide +kernel))) (by decide +kernel)
  | 9, _ => exact ab_TS_in (tk_1 _ (List.mem_of_getElem? (i := 184) (by decide +kernel))) (by decide +kernel)
theorem tl_X12 : ∀ w ∈ u_ws RX12 TX12 41, w ∈ ab_TS := by
  intro w hw
  obtain ⟨k, hk, rfl⟩ := List.mem_map.mp hw
  have hk : k < 41 := List.mem_range.mp hk
  match k, hk with
  | 0, _ => exact ab_TS_in (tk_5 _ (List.mem_of_getElem? (i := 157) (by decide +kernel))) (by decide +kernel)
  | 1, _ => exact ab_TS_in (tk_5 _ (List.mem_of_getElem? (i := 159) (by decide +kernel))) (by decide +kernel)
  | 2, _ => exact ab_TS_in (tk_5 _ (List.mem_of_getElem? (i := 161) (by decide +kernel))) (by decide +kernel)
  | 3, _ => exact ab_TS_in (tk_5 _ (List.mem_of_getElem? (i := 163) (by decide +kernel))) (by decide +kernel)
  | 4, _ => exact ab_TS_in (tk_5 _ (List.mem_of_getElem? (i := 165) (by decide +kernel))) (by decide +kernel)
  | 5, _ => exact ab_TS_in (tk_5 _ (List.mem_of_getElem? (i := 167) (by decide +kernel))) (by decide +kernel)
  | 6, _ => exact ab_TS_in (tk_5 _ (List.mem_of_getElem? (i := 169) (by decide +kernel))) (by decide +kernel)
  | 7, _ => exact ab_TS_in (tk_5 _ (List.mem_of_getElem? (i := 171) (by decide +kernel))) (by decide +kernel)
  | 8, _ => exact ab_TS_in (tk_5 _ (List.mem_of_getElem? (i := 173) (by decide +kernel))) (by decide +kernel)
  | 9, _ => exact ab_TS_in (tk_5 _ (List.mem_of_getElem? (i := 175) (by decide +kernel))) (by decide +kernel)
  | 10, _ => exact ab_TS_in (tk_5 _ (List.mem_of_getElem? (i := 177) (by decide +kernel))) (by decide +kernel)
  | 11, _ => exact ab_TS_in (tk_5 _ (List.mem_of_getElem? (i := 179) (by decide +kernel))) (by decide +kernel)
  | 12, _ => exact ab_TS_in (tk_5 _ (List.mem_of_getElem? (i := 181) (by decide +kernel))) (by decide +kernel)
  | 13, _ => exact ab_TS_in (tk_5 _ (List.mem_of_getElem? (i := 183) (by decide +kernel))) (by decide +kernel)
  | 14, _ => exact ab_TS_in (tk_5 _ (List.mem_of_getElem? (i := 185) (by decide +kernel))) (by decide +kernel)
  | 15, _ => exact ab_TS_in (tk_5 _ (List.mem_of_getElem? (i := 187) (by decide +kernel))) (by decide +kernel)
  | 16, _ => exact ab_TS_in (tk_5 _ (List.mem_of_getElem? (i := 189) (by decide +kernel))) (by decide +kernel)
  | 17, _ => exact ab_TS_in (tk_5 _ (List.mem_of_getElem? (i := 191) (by decide +kernel))) (by decide +kernel)
  | 18, _ => exact ab_TS_in (tk_5 _ (List.mem_of_getElem? (i := 193) (by decide +kernel))) (by decide +kernel)
  | 19, _ => exact ab_TS_in (tk_5 _ (List.mem_of_getElem? (i := 195) (by decide +kernel))) (by decide +kernel)
  | 20, _ => exact ab_TS_in (tk_5 _ (List.mem_of_getElem? (i := 197) (by decide +kernel))) (by decide +kernel)
  | 21, _ => exact ab_TS_in (tk_5 _ (List.mem_of_getElem? (i := 199) (by decide +kernel))) (by decide +kernel)
  | 22, _ => exact ab_TS_in (tk_5 _ (List.mem_of_getElem? (i := 201) (by decide +kernel))) (by decide +kernel)
  | 23, _ => exact ab_TS_in (tk_5 _ (List.mem_of_getElem? (i := 203) (by decide +kernel))) (by decide +kernel)
  | 24, _ => exact ab_TS_in (tk_5 _ (List.mem_of_getElem? (i := 205) (by decide +kernel))) (by decide +kernel)
  | 25, _ => exact ab_TS_in (tk_5 _ (List.mem_of_getElem? (i := 207) (by decide +kernel))) (by decide +kernel)
  | 26, _ => exact ab_TS_in (tk_5 _ (List.mem_of_getElem? (i := 209) (by decide +kernel))) (by decide +kernel)
  | 27, _ => exact ab_TS_in (tk_5 _ (List.mem_of_getElem? (i := 211) (by decide +kernel))) (by decide +kernel)
  | 28, _ => exact ab_TS_in (tk_5 _ (List.mem_of_getElem? (i := 213) (by decide +kernel))) (by decide +kernel)
  | 29, _ => exact ab_TS_in (tk_5 _ (List.mem_of_getElem? (i := 215) (by decide +kernel))) (by decide +kernel)
  | 30, _ => exact ab_TS_in (tk_5 _ (List.mem_of_getElem? (i := 217) (by decide +kernel))) (by decide +kernel)
  | 31, _ => exact ab_TS_in (tk_5 _ (List.mem_of_getElem? (i := 219) (by decide +kernel))) (by decide +kernel)
  | 32, _ => exact ab_TS_in (tk_5 _ (List.mem_of_getElem? (i := 221) (by decide +kernel))) (by decide +kernel)
  | 33, _ => exact ab_TS_in (tk_5 _ (List.mem_of_getElem? (i := 223) (by decide +kernel))) (by decide +kernel)
  | 34, _ => exact ab_TS_in (tk_5 _ (List.mem_of_getElem? (i := 225) (by decide +kernel))) (by decide +kernel)
  | 35, _ => exact ab_TS_in (tk_5 _ (List.mem_of_getElem? (i := 227) (by decide +kernel))) (by decide +kernel)
  | 36, _ => exact ab_TS_in (tk_5 _ (List.mem_of_getElem? (i := 229) (by decide +kernel))) (by decide +kernel)
  | 37, _ => exact ab_TS_in (tk_5 _ (List.mem_of_getElem? (i := 231) (by decide +kernel))) (by decide +kernel)
  | 38, _ => exact ab_TS_in (tk_5 _ (List.mem_of_getElem? (i := 233) (by decide +kernel))) (by decide +kernel)
  | 39, _ => exact ab_TS_in (tk_5 _ (List.mem_of_getElem? (i := 235) (by decide +kernel))) (by decide +kernel)
  | 40, _ => exact ab_TS_in (tk_5 _ (List.mem_of_getElem? (i := 237) (by decide +kernel))) (by decide +kernel)
theorem ab_ci : ∀ (ci : Nat) (C : String) (T : u_T) (N : Nat), vwCl[ci]? = some (C, T, N) → (∀ w ∈ u_ws C T N, w ∈ ab_TS) ∧ (∃ ty : Nat → FieldType, ∀ k, k < N → parseFieldDescriptor (T k).2.2.1 = some (ty k)) ∧ (∀ a, a < N → ∀ b, b < N → a ≠ b → (T a).2.1 ≠ (T b).2.1)
  | 0, _, _, _, h => by cases h; exact ⟨tl_X0, ⟨tyX0, tyX0_ok⟩, nmX0⟩
  | 1, _, _, _, h => by cases h; exact ⟨tl_X1, ⟨tyX1, tyX1_ok⟩, nmX1⟩
  | 2, _, _, _, h => by cases h; exact ⟨tl_X2, ⟨tyX2, tyX2_ok⟩, nmX2⟩
  | 3, _, _, _, h => by cases h; exact ⟨tl_X3, ⟨tyX3, tyX3_ok⟩, nmX3⟩
  | 4, _, _, _, h => by cases h; exact ⟨tl_X4, ⟨tyX4, tyX4_ok⟩, nmX4⟩
  | 5, _, _, _, h => by cases h; exact ⟨tl_X5, ⟨tyX5, tyX5_ok⟩, nmX5⟩
  | 6, _, _, _, h => by cases h; exact ⟨tl_X6, ⟨tyX6, tyX6_ok⟩, nmX6⟩
  | 7, _, _, _, h => by cases h; exact ⟨tl_X7, ⟨tyX7, tyX7_ok⟩, nmX7⟩
  | 8, _, _, _, h => by cases h; exact ⟨tl_X8, ⟨tyX8, tyX8_ok⟩, nmX8⟩
  | 9, _, _, _, h => by cases h; exact ⟨tl_X9, ⟨tyX9, tyX9_ok⟩, nmX9⟩
  | 10, _, _, _, h => by cases h; exact ⟨tl_X10, ⟨tyX10, tyX10_ok⟩, nmX10⟩
  | 11, _, _, _, h => by cases h; exact ⟨tl_X11, ⟨tyX11, tyX11_ok⟩, nmX11⟩
  | 12, _, _, _, h => by cases h; exact ⟨tl_X12, ⟨tyX12, tyX12_ok⟩, nmX12⟩
  | n + 13, _, _, _, h => by simp [vwCl] at h
end
section
section ABF
/-! THE ABSTRACT WORLD: numbers and references by object and place; objects are numbered as they are made. -/
abbrev ab_HP : Type := Nat × (Nat → Nat → Int32) × (Nat → Nat → Int64) × (Nat → Nat → Option Nat)
def ab_i (h : ab_HP) (r k : Nat) : Int32 := h.2.1 r k
def ab_l (h : ab_HP) (r k : Nat) : Int64 := h.2.2.1 r k
def ab_r (h : ab_HP) (r k : Nat) : Option Nat := h.2.2.2 r k
def ab_ip (h : ab_HP) (r k : Nat) (v : Int32) : ab_HP := (h.1, fun a b => if a = r ∧ b = k then v else h.2.1 a b, h.2.2.1, h.2.2.2)
def ab_lp (h : ab_HP) (r k : Nat) (v : Int64) : ab_HP := (h.1, h.2.1, fun a b => if a = r ∧ b = k then v else h.2.2.1 a b, h.2.2.2)
def ab_rp (h : ab_HP) (r k : Nat) (v : Option Nat) : ab_HP := (h.1, h.2.1, h.2.2.1, fun a b => if a = r ∧ b = k then v else h.2.2.2 a b)
/-- a new object, all of it 0, null -/
def ab_nw (h : ab_HP) : ab_HP := (h.1 + 1, fun a b => if a = h.1 then 0 else h.2.1 a b, fun a b => if a = h.1 then 0 else h.2.2.1 a b, fun a b => if a = h.1 then none else h.2.2.2 a b)
/-- numbers of one row come to another (or to the same) -/
def ab_cp (h : ab_HP) (q : Nat) (i : Nat) (r : Nat) (j n : Nat) : ab_HP := (h.1, fun a b => if a = r then va_cpy (h.2.1 q) (h.2.1 r) i j n b else h.2.1 a b, h.2.2.1, h.2.2.2)
/-- a method: its name, code, locals, what it answers -/
abbrev ab_M : Type := MethodName × ByteArray × Nat × Option FieldType
/-- the machine's numbers: classes and slots; the four array classes; the script's cell, length, ints -/
abbrev ab_G : Type := va_G × (ClassId × ClassId × ClassId × ClassId) × Nat × Nat × (Nat → Int32)
def ab_tys (D : ab_G) : List (ClassId × FieldType) := [(D.2.1.1, .int), (D.2.1.2.1, .long), (D.2.1.2.2.1, .object "BackwardYears$Deed"), (D.2.1.2.2.2, .object "BackwardYears$Shelf")]
/-- what stands at which number: kind and (of a row) length; all behind the table are deeds -/
def ab_shp (r : Nat) : Nat × Nat := ab_tab.getD r (4, 0)
/-- the classes of a kind -/
def ab_cls (t : Nat) : List Nat := match t with
  | 0 => [11] | 1 => [9] | 2 => [10] | 3 => [6] | 4 => [0, 1, 2, 3, 4, 5, 7, 8] | 5 => [12] | _ => []
/-- the type of a field of kind: 0 int, 1 boolean, 2 long, 3 + t a reference to kind t -/
def ab_kty (kd : Nat) : FieldType := match kd with
  | 0 => .int | 1 => .boolean | 2 => .long
  | 3 => .object "BackwardYears" | 4 => .object "BackwardYears$Town" | 5 => .object "BackwardYears$Years" | 6 => .object "BackwardYears$Shelf" | 7 => .object "BackwardYears$Deed" | 8 => .object "BackwardYearsModel"
  | 9 => .array .int | 10 => .array .long | 11 => .array (.object "BackwardYears$Deed") | _ => .array (.object "BackwardYears$Shelf")
/-- an abstract value's concrete one: references by the world's addresses; .float stands for the script -/
def ab_V (b : Nat) (ws : va_W) (v cv : Value) : Prop := match v with
  | .ref q => ∃ (a : Nat) (e : va_E), ws[q]? = some (a, e) ∧ cv = .ref a
  | .float _ => cv = .ref b
  | v => cv = v
def ab_S (b : Nat) (ws : va_W) : List Value → List Value → Prop
  | [], cst => cst = []
  | v :: st, cst => ∃ cv cst', cst = cv :: cst' ∧ ab_V b ws v cv ∧ ab_S b ws st cst'
def ab_ro (ws : va_W) (t : Nat) (o g : Option Nat) : Prop := match o with
  | none => g = none
  | some q => (ab_shp q).1 = t ∧ ∃ (a : Nat) (e : va_E), ws[q]? = some (a, e) ∧ g = some a
def ab_fv (h : ab_HP) (ws : va_W) (r k kd : Nat) (v : Value) : Prop :=
  if kd < 2 then v = .int (ab_i h r k) else if kd = 2 then v = .long (ab_l h r k) else ∃ g, ab_ro ws (kd - 3) (ab_r h r k) g ∧ v = va_rf g
def ab_ce (D : ab_G) (h : ab_HP) (ws : va_W) (r : Nat) (e : va_E) : Prop :=
  if (ab_shp r).1 < 6 then ∃ (ci : Nat) (fs : List Value), ci ∈ ab_cls (ab_shp r).1 ∧ e = .inr (ci, fs) ∧ fs.length = (ab_fk (ab_shp r).1).length ∧ ∀ k kd, (ab_fk (ab_shp r).1)[k]? = some kd → ∃ v, fs[k]? = some v ∧ ab_fv h ws r k kd v
  else if (ab_shp r).1 = 6 then e = .inl (D.2.1.1, (ab_shp r).2, .inl (ab_i h r))
  else if (ab_shp r).1 = 7 then e = .inl (D.2.1.2.1, (ab_shp r).2, .inr (.inl (ab_l h r)))
  else if (ab_shp r).1 = 8 then ∃ g : Nat → Option Nat, e = .inl (D.2.1.2.2.1, (ab_shp r).2, .inr (.inr (.inr (.inr g)))) ∧ ∀ i, ab_ro ws 4 (ab_r h r i) (g i)
  else ∃ g : Nat → Option Nat, e = .inl (D.2.1.2.2.2, (ab_shp r).2, .inr (.inr (.inr (.inr g)))) ∧ ∀ i, ab_ro ws 3 (ab_r h r i) (g i)
def ab_R (D : ab_G) (h : ab_HP) (ws : va_W) : Prop := ws.length = h.1 ∧ ∀ (r a : Nat) (e : va_E), ws[r]? = some (a, e) → ab_ce D h ws r e
/-- addresses stay -/
def ab_P (ws ws' : va_W) : Prop := ∀ (q a : Nat) (e : va_E), ws[q]? = some (a, e) → ∃ e', ws'[q]? = some (a, e')
def ab_L (b : Nat) (ws : va_W) (n : Nat) (lo : List (Option Value)) (ls : Array Slot) : Prop := ls.size = n ∧ lv_wf ls ∧ ∀ (i : Nat) (v : Value), lo[i]? = some (some v) → ∃ cv, ls[i]? = some (.val cv) ∧ ab_V b ws v cv
/-- what the tables say besides the words -/
def ab_KW (D : ab_G) (U : State) : Prop := va_K D.1 vwCl (ab_tys D) U ∧ (∀ q ∈ ab_nests, va_Nw (.methodLinkNest q.1 q.2.1 q.2.2.1 q.2.2.2) U) ∧ (∀ C ∈ ab_kids, va_Nw (.castable C RX1) U) ∧ va_AO RX1 U ∧ va_AO RX6 U
theorem ab_KW.warm {D : ab_G} {s U : State} (hW : s.WarmedH U.vm) (h : ab_KW D s) : ab_KW D U :=
  ⟨va_K.moved hW.alike h.1, fun q hq => va_Nw.warmM hW (h.2.1 q hq), fun C hC => va_Nw.warmC hW (h.2.2.1 C hC), va_AO.moved hW.alike h.2.2.2.1, va_AO.moved hW.alike h.2.2.2.2⟩
theorem ab_KW.vm {D : ab_G} {s U : State} (hW : s.vm = U.vm) (h : ab_KW D s) : ab_KW D U := by
  have hA : s.vm.Alike U.vm := hW ▸ Vm.Alike.refl s.vm
  exact ⟨va_K.moved hA h.1, fun q hq => va_Nw.same rfl hW (h.2.1 q hq), fun C hC => va_Nw.same rfl hW (h.2.2.1 C hC), va_AO.moved hA h.2.2.2.1, va_AO.moved hA h.2.2.2.2⟩
def ab_code (y : ab_M) : Cond := .code y.1 y.2.1 y.2.2.1 y.2.2.2
def ab_ws (y : ab_M) : List Cond := ab_code y :: ab_TS
theorem ab_ws_good {y : ab_M} (hy : ab_code y ∈ ab_TS) : GoodIn ab_TS (ab_ws y) := by
  intro w hw
  rcases List.mem_cons.mp hw with rfl | hw
  · exact ⟨hy, good_of_word (ab_TS_good _ hy)⟩
  · exact ⟨hw, good_of_word (ab_TS_good _ hw)⟩
def ab_C (y : ab_M) (d mc ms : Nat) (l : Launch) (D : ab_G) (A : Nat → Prop) (p : Program) (R : Room) (s : State) (m : MethodId) (args : Array Value) (meth : Method) (c : Code) : Prop :=
  p.tables.exec = Jvm.exec ∧ c.code = y.2.1 ∧ c.maxLocals = y.2.2.1 ∧ s.vm.findClass y.1.cls = some m.cls ∧ (∀ w ∈ ab_TS, w.before args s = true) ∧ ab_KW D s ∧ d ≤ R.frames ∧ 64 * d ≤ R.locals ∧ mc ≤ R.cells ∧ ms ≤ R.slots ∧ (∀ q : Nat, s.heap.size ≤ q → A q) ∧ meth.name = y.1.name ∧ meth.locks = false ∧ meth.sig.returnType = y.2.2.2 ∧ l.flags = flags0 ∧ (y.1.name = "law" → va_X D.2.2.1 D.2.2.2.1 D.2.2.2.2 s s.heap ∧ D.2.2.1 < s.heap.size ∧ ¬ A D.2.2.1)
def ab_VO (b : Nat) (ws : va_W) : Option Value → Option Value → Prop
  | none, cv => cv = none
  | some v, cv => ∃ w, cv = some w ∧ ab_V b ws v w
/-- the return instruction at which a method ends -/
def ab_RI (y : ab_M) (pc : Nat) (v : Option Value) : Prop := match v with
  | none => decode y.2.1 pc = .ok (.return_, 1) ∧ y.2.2.2 = none
  | some (.int x) => decode y.2.1 pc = .ok (.ireturn, 1) ∧ (y.2.2.2 = some .int ∨ y.2.2.2 = some .boolean ∧ (x = 0 ∨ x = 1))
  | some (.long _) => decode y.2.1 pc = .ok (.lreturn, 1) ∧ y.2.2.2 = some .long
  | some (.ref _) => decode y.2.1 pc = .ok (.areturn, 1) ∧ ∃ n, y.2.2.2 = some (.object n)
  | some .null => decode y.2.1 pc = .ok (.areturn, 1) ∧ ∃ n, y.2.2.2 = some (.object n)
  | _ => False
def ab_K (y : ab_M) (mc ms : Nat) (P : Option Value → ab_HP → Prop) (p : Program) (l : Launch) (e : Env) (R : Room) (σ : State) (m : MethodId) (args : Array Value) (below : List Frame) (meth : Method) (cd : Code) (D : ab_G) (A : Nat → Prop) (Q : State → Prop) (ws : va_W) : Prop :=
  ∀ (v : Option Value) (u : ab_HP) (ws' : va_W) (H' : Heap) (locs' : List Loc) (ls' : Array Slot) (pc' : Nat) (cv : Option Value), P v u → ab_P ws ws' → ab_R D u ws' → va_P D.1 vwCl ws' H' → va_D A ws' → va_S A σ.heap H' locs' → ab_VO D.2.2.1 ws' v cv → ab_RI y pc' v → W p l e R σ m args below meth cd H' locs' mc ms Q (F0 m pc' ls' cv.toList)
/-- THE JUDGEMENT: in any machine that runs method y, from the place pc with the locals lo, the operands st and the abstract world h, it comes to a return with P -/
def ab_T (y : ab_M) (d mc ms c s : Nat) (pc : Nat) (lo : List (Option Value)) (st : List Value) (h : ab_HP) (P : Option Value → ab_HP → Prop) : Prop :=
  ∀ (p : Program) (l : Launch) (e : Env) (R : Room) (σ : State) (m : MethodId) (args : Array Value) (below : List Frame) (meth : Method) (cd : Code) (D : ab_G) (A : Nat → Prop) (Q : State → Prop), ab_C y d mc ms l D A p R σ m args meth cd →
  ∀ (ws : va_W) (H : Heap) (locs : List Loc) (ls : Array Slot) (cst : List Value), ab_R D h ws → va_P D.1 vwCl ws H → va_D A ws → va_S A σ.heap H locs → ab_L D.2.2.1 ws y.2.2.1 lo ls → ab_S D.2.2.1 ws st cst →
  ab_K y mc ms P p l e R σ m args below meth cd D A Q ws →
  W p l e R σ m args below meth cd H locs c s Q (F0 m pc ls cst)
/-! the world moves -/
theorem ab_P.rf {ws : va_W} : ab_P ws ws := fun _ _ e h => ⟨e, h⟩
theorem ab_P.tr {a b c : va_W} (h1 : ab_P a b) (h2 : ab_P b c) : ab_P a c := fun q x e h => by
  obtain ⟨e1, g1⟩ := h1 q x e h
  exact h2 q x e1 g1
theorem ab_P.set {ws : va_W} {q a : Nat} {e0 e : va_E} (hq : ws[q]? = some (a, e0)) : ab_P ws (ws.set q (a, e)) := by
  intro r b x hr
  by_cases h : r = q
  · subst h
    rw [hq] at hr
    cases hr
    exact ⟨e, by rw [List.getElem?_set_self (List.getElem?_eq_some_iff.mp hq).1]⟩
  · exact ⟨x, by rw [List.getElem?_set_ne (Ne.symm h)]; exact hr⟩
theorem ab_P.app {ws l : va_W} : ab_P ws (ws ++ l) := fun q a e h => ⟨e, by rw [List.getElem?_append_left (List.getElem?_eq_some_iff.mp h).1]; exact h⟩
theorem ab_V.mono {b : Nat} {ws ws' : va_W} {v cv : Value} (hp : ab_P ws ws') (h : ab_V b ws v cv) : ab_V b ws' v cv := by
  cases v with
  | ref q =>
    obtain ⟨a, e, h1, h2⟩ := h
    obtain ⟨e', h3⟩ := hp q a e h1
    exact ⟨a, e', h3, h2⟩
  | _ => exact h
theorem ab_S.mono {b : Nat} {ws ws' : va_W} (hp : ab_P ws ws') : ∀ {st cst : List Value}, ab_S b ws st cst → ab_S b ws' st cst
  | [], _, h => h
  | _ :: _, _, ⟨cv, cst', h1, h2, h3⟩ => ⟨cv, cst', h1, h2.mono hp, ab_S.mono hp h3⟩
theorem ab_L.mono {b : Nat} {ws ws' : va_W} {n : Nat} {lo : List (Option Value)} {ls : Array Slot} (hp : ab_P ws ws') (h : ab_L b ws n lo ls) : ab_L b ws' n lo ls :=
  ⟨h.1, h.2.1, fun i v hv => by obtain ⟨cv, h1, h2⟩ := h.2.2 i v hv; exact ⟨cv, h1, h2.mono hp⟩⟩
theorem ab_ro.mono {ws ws' : va_W} {t : Nat} {o g : Option Nat} (hp : ab_P ws ws') (h : ab_ro ws t o g) : ab_ro ws' t o g := by
  cases o with
  | none => exact h
  | some q =>
    obtain ⟨h0, a, e, h1, h2⟩ := h
    obtain ⟨e', h3⟩ := hp q a e h1
    exact ⟨h0, a, e', h3, h2⟩
theorem ab_fv.mono {h h' : ab_HP} {ws ws' : va_W} {r k kd : Nat} {v : Value} (hp : ab_P ws ws') (hi : ab_i h' r k = ab_i h r k) (hl : ab_l h' r k = ab_l h r k) (hr : ab_r h' r k = ab_r h r k) (H : ab_fv h ws r k kd v) : ab_fv h' ws' r k kd v := by
  unfold ab_fv at H ⊢
  rw [hi, hl, hr]
  split
  · rwa [if_pos ‹_›] at H
  · rw [if_neg ‹_›] at H
    split
    · rwa [if_pos ‹_›] at H
    · rw [if_neg ‹_›] at H
      obtain ⟨g, h1, h2⟩ := H
      exact ⟨g, h1.mono hp, h2⟩
theorem ab_ce.mono {D : ab_G} {h h' : ab_HP} {ws ws' : va_W} {r : Nat} {e : va_E} (hp : ab_P ws ws') (hi : ∀ k, ab_i h' r k = ab_i h r k) (hl : ∀ k, ab_l h' r k = ab_l h r k) (hr : ∀ k, ab_r h' r k = ab_r h r k) (H : ab_ce D h ws r e) : ab_ce D h' ws' r e := by
  unfold ab_ce at H ⊢
  split
  · rw [if_pos ‹_›] at H
    obtain ⟨ci, fs, h1, h2, h3, h4⟩ := H
    exact ⟨ci, fs, h1, h2, h3, fun k kd hk => by obtain ⟨v, g1, g2⟩ := h4 k kd hk; exact ⟨v, g1, g2.mono hp (hi k) (hl k) (hr k)⟩⟩
  · rw [if_neg ‹_›] at H
    split
    · rw [if_pos ‹_›] at H
      rw [H, show ab_i h' r = ab_i h r from funext hi]
    · rw [if_neg ‹_›] at H
      split
      · rw [if_pos ‹_›] at H
        rw [H, show ab_l h' r = ab_l h r from funext hl]
      · rw [if_neg ‹_›] at H
        split
        · rw [if_pos ‹_›] at H
          obtain ⟨g, h1, h2⟩ := H
          exact ⟨g, h1, fun i => by rw [hr]; exact (h2 i).mono hp⟩
        · rw [if_neg ‹_›] at H
          obtain ⟨g, h1, h2⟩ := H
          exact ⟨g, h1, fun i => by rw [hr]; exact (h2 i).mono hp⟩
/-- one cell changes -/
theorem ab_R.set {D : ab_G} {h h' : ab_HP} {ws : va_W} {q a : Nat} {e0 e : va_E} (H : ab_R D h ws) (hq : ws[q]? = some (a, e0)) (hs : h'.1 = h.1) (hi : ∀ r, r ≠ q → ∀ k, ab_i h' r k = ab_i h r k) (hl : ∀ r, r ≠ q → ∀ k, ab_l h' r k = ab_l h r k) (hr : ∀ r, r ≠ q → ∀ k, ab_r h' r k = ab_r h r k) (he : ab_ce D h' (ws.set q (a, e)) q e) : ab_R D h' (ws.set q (a, e)) := by
  refine ⟨by rw [List.length_set, H.1, hs], fun r b x hx => ?_⟩
  by_cases hrq : r = q
  · subst hrq
    rw [List.getElem?_set_self (List.getElem?_eq_some_iff.mp hq).1] at hx
    cases hx
    exact he
  · rw [List.getElem?_set_ne (Ne.symm hrq)] at hx
    exact (H.2 r b x hx).mono (ab_P.set hq) (hi r hrq) (hl r hrq) (hr r hrq)
/-- one cell more -/
theorem ab_R.push {D : ab_G} {h : ab_HP} {ws : va_W} {a : Nat} {e : va_E} (H : ab_R D h ws) (he : ab_ce D (ab_nw h) (ws ++ [(a, e)]) h.1 e) : ab_R D (ab_nw h) (ws ++ [(a, e)]) := by
  have hn : (ws ++ [(a, e)]).length = h.1 + 1 := by rw [List.length_append, H.1]; rfl
  refine ⟨hn, fun r b x hx => ?_⟩
  have hlt := (List.getElem?_eq_some_iff.mp hx).1
  by_cases hr : r < h.1
  · rw [List.getElem?_append_left (by rw [H.1]; exact hr)] at hx
    have hne : ¬ r = h.1 := by omega
    exact (H.2 r b x hx).mono ab_P.app (fun k => by simp [ab_i, ab_nw, hne]) (fun k => by simp [ab_l, ab_nw, hne]) (fun k => by simp [ab_r, ab_nw, hne])
  · have hr2 : r = h.1 := by omega
    subst hr2
    rw [List.getElem?_append_right (by rw [H.1]; omega), H.1, Nat.sub_self] at hx
    cases hx
    exact he
end ABF
end
section
section ABC
def ab_Wd (D : ab_G) (ws : va_W) (sz : Nat) (U : State) : Prop := U.heap.size = sz ∧ va_P D.1 vwCl ws U.heap ∧ ab_KW D U ∧ va_D (fun _ => True) ws
def ab_Qc (P : Option Value → ab_HP → Prop) (D : ab_G) (ws : va_W) (sz : Nat) : Array Value → State → Outcome → State → Prop := fun _ st oc t =>
  (∃ (v : Option Value) (u : ab_HP) (ws' : va_W) (cv : Option Value), oc = .returned cv ∧ P v u ∧ ab_VO D.2.2.1 ws' v cv ∧ ab_P ws ws' ∧ ab_R D u ws' ∧ va_P D.1 vwCl ws' t.heap ∧ va_D (va_A ws sz) ws') ∧ va_F (va_A ws sz) st t
def ab_rm (d mc ms : Nat) : Room := { frames := d, cells := mc, slots := ms, locals := 64 * d }
/-- THE CONTRACT of a method at arguments as and a world h: it returns with P -/
def ab_MET (y : ab_M) (d mc ms : Nat) (as : List Value) (h : ab_HP) (P : Option Value → ab_HP → Prop) : Prop :=
  ∀ (l : Launch), l.flags = flags0 → ∀ (D : ab_G) (ws : va_W) (sz : Nat) (cas : List Value), ab_R D h ws → ab_S D.2.2.1 ws as cas →
    Met l y.1 (ab_ws y) (ab_rm d mc ms) (va_Pc cas (ab_Wd D ws sz)) (ab_Qc P D ws sz) mc ms (va_A ws sz)
theorem ab_blind {D : ab_G} {ws : va_W} {sz : Nat} {cas : List Value} : FrameBlind (va_Pc cas (ab_Wd D ws sz)) := by
  intro a U g mk q
  obtain ⟨q0, q1, q2, q3, q4⟩ := q
  exact ⟨q0, q1, q2, ab_KW.vm (s := U) (U := U.calling g mk a) rfl q3, q4⟩
theorem ab_S_app {b : Nat} {ws : va_W} : ∀ {x z cst : List Value}, ab_S b ws (x ++ z) cst → ∃ cx cz, cst = cx ++ cz ∧ ab_S b ws x cx ∧ ab_S b ws z cz
  | [], _, cst, h => ⟨[], cst, rfl, rfl, h⟩
  | _ :: x, _, _, ⟨cv, cst', h1, h2, h3⟩ => by
    obtain ⟨cx, cz, g1, g2, g3⟩ := ab_S_app (x := x) h3
    exact ⟨cv :: cx, cz, by rw [h1, g1]; rfl, ⟨cv, cx, rfl, h2, g2⟩, g3⟩
theorem ab_S_cat {b : Nat} {ws : va_W} : ∀ {x z cx cz : List Value}, ab_S b ws x cx → ab_S b ws z cz → ab_S b ws (x ++ z) (cx ++ cz)
  | [], _, _, _, h, g => by
    have h : _ = [] := h
    subst h
    exact g
  | _ :: _, _, _, _, ⟨cv, cst', h1, h2, h3⟩, g => by
    subst h1
    exact ⟨cv, cst' ++ _, rfl, h2, ab_S_cat h3 g⟩
theorem ab_S_rev {b : Nat} {ws : va_W} : ∀ {x cx : List Value}, ab_S b ws x cx → ab_S b ws x.reverse cx.reverse
  | [], _, h => by
    have h : _ = [] := h
    subst h
    rfl
  | v :: x, _, ⟨cv, cst', h1, h2, h3⟩ => by
    subst h1
    rw [List.reverse_cons, List.reverse_cons]
    exact ab_S_cat (ab_S_rev h3) ⟨cv, [], rfl, h2, rfl⟩
theorem ab_S_len {b : Nat} {ws : va_W} : ∀ {x cx : List Value}, ab_S b ws x cx → cx.length = x.length
  | [], _, h => by
    have h : _ = [] := h
    subst h
    rfl
  | v :: x, _, ⟨cv, cst', h1, h2, h3⟩ => by
    subst h1
    rw [List.length_cons, List.length_cons, ab_S_len h3]
theorem ab_cats : ∀ (l : List Value), (l.map fun v => v.category).sum ≤ 2 * l.length
  | [] => Nat.le_refl _
  | v :: l => by
    have h := ab_cats l
    have h2 : v.category ≤ 2 := by rcases lv_cat v with q | q <;> omega
    simp only [List.map_cons, List.sum_cons, List.length_cons]
    omega
theorem ab_toV {b : Nat} {ws : va_W} {v cv : Option Value} {st cst : List Value} (h : ab_VO b ws v cv) (g : ab_S b ws st cst) : ab_S b ws (v.toList ++ st) (cv.toList ++ cst) := by
  cases v with
  | none =>
    have h : cv = none := h
    subst h
    exact g
  | some v =>
    obtain ⟨w, rfl, h2⟩ := h
    exact ⟨w, cst, rfl, h2, g⟩
section
variable {p : Program} {l : Launch} {e : Env} {R : Room} {σ : State} {m : MethodId} {args : Array Value} {below : List Frame} {meth : Method} {cd : Code} {H : Heap} {locs : List Loc} {c s : Nat} {Q : State → Prop}
theorem ab_after {D : ab_G} {A : Nat → Prop} {ws : va_W} {mc' ms' pc : Nat} {ls : Array Slot} {st0 rest : List Value} {P' : Option Value → ab_HP → Prop} {a : Array Value}
    (hr : va_Run p l e R σ m args below meth cd H locs c s mc' ms' (F0 m pc ls st0) rest (ab_Qc P' D ws H.size a) (va_A ws H.size)) (hD : va_D A ws) (hS : va_S A σ.heap H locs) (hA : ∀ q : Nat, σ.heap.size ≤ q → A q)
    (kk : ∀ (v : Option Value) (u : ab_HP) (ws' : va_W) (cv : Option Value) (H1 : Heap) (locs1 : List Loc), P' v u → ab_VO D.2.2.1 ws' v cv → ab_P ws ws' → ab_R D u ws' → va_P D.1 vwCl ws' H1 → va_D A ws' → va_S A σ.heap H1 locs1 → W p l e R σ m args below meth cd H1 locs1 (c + mc') (s + ms') Q (F0 m (pc + 3) ls (cv.toList ++ rest))) :
    W p l e R σ m args below meth cd H locs c s Q (F0 m pc ls st0) := by
  intro T hT X
  obtain ⟨v0, st₀, t, T', L, h0, X', hL, e1, e2, ⟨⟨v, u, ws', cv, hv, hp, hvo, hpp, hR, hP, hD'⟩, hz, hk⟩, st⟩ := hr T hT X
  cases hv
  rw [h0] at hz hk
  have hF : ∀ q : Nat, va_A ws H.size q → A q := by
    intro q h
    rcases h with ⟨k, x, h⟩ | h
    · exact hD.2 k _ h
    · exact hA q (Nat.le_trans hS.1 h)
  obtain ⟨t2, a1, b1⟩ := kk v u ws' _ T'.heap (locs ++ L) hp hvo hpp hR (by rw [e1]; exact hP) (hD'.weaken fun _ q _ h => hF q.1 h)
    ⟨Nat.le_trans hS.1 (by rw [e1]; exact hz), fun q h1 h2 => by rw [e1, hk q (Nat.lt_of_lt_of_le h1 hS.1) (fun z => h2 (hF q z))]; exact hS.2.1 q h1 h2, fun q hq => by
      rcases List.mem_append.mp hq with h | h
      · exact hS.2.2 q h
      · exact hF _ (hL q h)⟩ T' rfl X'
  exact ⟨t2, st t2 a1, b1⟩
end
/-- what a method's name says -/
def ab_MF (z : ab_M) (n : Nat) : Prop := ab_code z ∈ ab_TS ∧ Cond.initialized z.1.cls ∈ ab_TS ∧ (z.1.cls ≠ "java/lang/invoke/MethodHandle" ∧ z.1.cls ≠ "java/lang/invoke/VarHandle") ∧ (parseMethodDescriptor z.1.desc).map (fun d => d.parameters.length) = some n ∧ z.2.2.1 ≤ 40
theorem ab_callB {y z : ab_M} {d mc ms d' mc' ms' n idx : Nat} {l : Launch} {D : ab_G} {A : Nat → Prop} {p : Program} {R : Room} {σ : State} {m : MethodId} {args : Array Value} {meth : Method} {cd : Code} (C : ab_C y d mc ms l D A p R σ m args meth cd)
    (mf : ab_MF z n) (hl : (Cond.methodLink y.1.cls idx z.1).before args σ = true) (hdd : d' + 1 ≤ d) : CallB R σ args y.1.cls idx z.1 z.2.1 z.2.2.1 z.2.2.2 (ab_ws z) (ab_rm d' mc' ms') mc' ms' n := by
  obtain ⟨hx, hb, hml, hown, hts, hKW, hfr, hlo, -⟩ := C
  obtain ⟨m1, m2, m3, m4, m5⟩ := mf
  refine ⟨rfl, rfl, by show d' + 1 ≤ R.frames; omega, by show 8 + (z.2.2.1 + 11) + 64 * d' ≤ R.locals; omega, pay_in hts (ab_ws_good m1), List.mem_cons_self, hts _ m1, hts _ m2, m3, fun sig h => ?_, hl⟩
  rw [h] at m4
  exact (Option.some.inj m4).symm
theorem ab_preS {D : ab_G} {ws : va_W} {σ : State} {H : Heap} {As : List Value} {A : Nat → Prop} (hP : va_P D.1 vwCl ws H) (hD : va_D A ws) (hK : ab_KW D σ) : PreS σ H (va_Pc As (ab_Wd D ws H.size)) As :=
  ⟨ab_blind, fun U hU hW => ⟨rfl, by rw [hU], by rw [hU]; exact hP, hK.warm hW, hD.weaken fun _ _ _ _ => trivial⟩⟩
section
variable {y z : ab_M} {d mc ms c s d' mc' ms' idx pc pc' : Nat} {lo : List (Option Value)} {as st stk : List Value} {h : ab_HP} {P P' : Option Value → ab_HP → Prop}
/-- a static method -/
theorem ab_callS (hM : ab_MET z d' mc' ms' as h P') (mf : ab_MF z as.length) (hlk : Cond.methodLink y.1.cls idx z.1 ∈ ab_TS) (hsta : Cond.static z.1 ∈ ab_TS) (hd : decode y.2.1 pc = .ok (.invokestatic idx, 3)) (hn : pc + 3 = pc') (hdd : d' + 1 ≤ d) (hc : c + mc' ≤ mc) (hs : s + ms' ≤ ms)
    (hst : as.reverse ++ st = stk) (hlen : st.length ≤ 4) (k : ∀ v u, P' v u → ab_T y d mc ms (c + mc') (s + ms') pc' lo (v.toList ++ st) u P) : ab_T y d mc ms c s pc lo stk h P := by
  intro p l e R σ m args below meth cd D A Q C ws H locs ls cst hR hP hD hS hL hT hK
  subst hst hn
  obtain ⟨ca, cr, rfl, g1, g2⟩ := ab_S_app hT
  have g1r := ab_S_rev g1
  rw [List.reverse_reverse] at g1r
  have hC := C
  obtain ⟨hx, hb, hml, hown, hts, hKW, hfr, hlo, hmc, hms, hA, hnm, hlk2, hret, hfl, -⟩ := C
  refine ab_after (va_runS (cc := y.2.1) (nL := y.2.2.1) (Ts := ab_TS) (own := y.1.cls) (As := ca.reverse) (rest := cr) ⟨hx, hb, hml, hown, hts⟩ (hM l hfl D ws H.size ca.reverse hR g1r) ⟨ab_callB hC mf (hts _ hlk) hdd, hts _ hsta⟩ (ab_preS hP hD hKW)
    rfl (by rw [ab_S_len g1r]) hL.1 (by rw [List.reverse_reverse]) (lv_room (Nat.le_trans (ab_cats cr) (by rw [ab_S_len g2]; omega))) hd ⟨Nat.le_trans hc hmc, Nat.le_trans hs hms⟩) hD hS hA fun v u ws' cv H1 locs1 hp hvo hpp hR' hP' hD' hS' => ?_
  exact k v u hp p l e R σ m args below meth cd D A Q hC ws' H1 locs1 ls _ hR' hP' hD' hS' (hL.mono hpp) (ab_toV hvo (g2.mono hpp)) (fun v2 u2 ws2 H2 locs2 ls2 pc2 cv2 q1 q2 => hK v2 u2 ws2 H2 locs2 ls2 pc2 cv2 q1 (hpp.tr q2))
/-- a static method of a nest mate, private -/
theorem ab_callSN (hM : ab_MET z d' mc' ms' as h P') (mf : ab_MF z as.length) {host : String} (hlk : (y.1.cls, idx, z.1, host) ∈ ab_nests) (hsta : Cond.static z.1 ∈ ab_TS) (hd : decode y.2.1 pc = .ok (.invokestatic idx, 3)) (hn : pc + 3 = pc') (hdd : d' + 1 ≤ d) (hc : c + mc' ≤ mc) (hs : s + ms' ≤ ms)
    (hst : as.reverse ++ st = stk) (hlen : st.length ≤ 4) (k : ∀ v u, P' v u → ab_T y d mc ms (c + mc') (s + ms') pc' lo (v.toList ++ st) u P) : ab_T y d mc ms c s pc lo stk h P := by
  intro p l e R σ m args below meth cd D A Q C ws H locs ls cst hR hP hD hS hL hT hK
  subst hst hn
  obtain ⟨ca, cr, rfl, g1, g2⟩ := ab_S_app hT
  have g1r := ab_S_rev g1
  rw [List.reverse_reverse] at g1r
  have hC := C
  obtain ⟨hx, hb, hml, hown, hts, hKW, hfr, hlo, hmc, hms, hA, hnm, hlk2, hret, hfl, -⟩ := C
  obtain ⟨m1, m2, m3, m4, m5⟩ := mf
  refine ab_after (va_runSN (cc := y.2.1) (nL := y.2.2.1) (Ts := ab_TS) (own := y.1.cls) (As := ca.reverse) (rest := cr) (n := as.length) ⟨hx, hb, hml, hown, hts⟩ (hM l hfl D ws H.size ca.reverse hR g1r) ⟨va_cnB as.length hts (ab_ws_good m1) rfl rfl rfl (hKW.2.1 _ hlk) (hts _ m2) ⟨m3.1, m3.2, m4⟩ ⟨by show d' + 1 ≤ R.frames; omega, by show 8 + (z.2.2.1 + 11) + 64 * d' ≤ R.locals; omega⟩, hts _ hsta, trivial⟩ (ab_preS hP hD hKW)
    rfl (by rw [ab_S_len g1r]) hL.1 (by rw [List.reverse_reverse]) (lv_room (Nat.le_trans (ab_cats cr) (by rw [ab_S_len g2]; omega))) hd ⟨Nat.le_trans hc hmc, Nat.le_trans hs hms⟩) hD hS hA fun v u ws' cv H1 locs1 hp hvo hpp hR' hP' hD' hS' => ?_
  exact k v u hp p l e R σ m args below meth cd D A Q hC ws' H1 locs1 ls _ hR' hP' hD' hS' (hL.mono hpp) (ab_toV hvo (g2.mono hpp)) (fun v2 u2 ws2 H2 locs2 ls2 pc2 cv2 q1 q2 => hK v2 u2 ws2 H2 locs2 ls2 pc2 cv2 q1 (hpp.tr q2))
/-- a constructor -/
theorem ab_callI {q : Nat} (hM : ab_MET z d' mc' ms' (va_rf (some q) :: as) h P') (mf : ab_MF z as.length) (hret0 : z.2.2.2 = none) (hini : z.1.name = "<init>") (hlk : Cond.methodLink y.1.cls idx z.1 ∈ ab_TS) (hins : Cond.instanceMethod z.1 ∈ ab_TS) (hd : decode y.2.1 pc = .ok (.invokespecial idx, 3)) (hn : pc + 3 = pc') (hdd : d' + 1 ≤ d) (hc : c + mc' ≤ mc) (hs : s + ms' ≤ ms)
    (hst : as.reverse ++ va_rf (some q) :: st = stk) (hlen : st.length ≤ 4) (k : ∀ v u, P' v u → ab_T y d mc ms (c + mc') (s + ms') pc' lo (v.toList ++ st) u P) : ab_T y d mc ms c s pc lo stk h P := by
  intro p l e R σ m args below meth cd D A Q C ws H locs ls cst hR hP hD hS hL hT hK
  subst hst hn
  obtain ⟨ca, cr, rfl, g1, cv0, cr', rfl, ⟨a, x0, ha, hcv⟩, g2⟩ := ab_S_app hT
  subst hcv
  have g1r := ab_S_rev g1
  rw [List.reverse_reverse] at g1r
  have hC := C
  obtain ⟨hx, hb, hml, hown, hts, hKW, hfr, hlo, hmc, hms, hA, hnm, hlk2, hret, hfl, -⟩ := C
  have cb := ab_callB (mc' := mc') (ms' := ms') (d' := d') hC mf (hts _ hlk) hdd
  rw [hret0] at cb
  refine ab_after (va_runI (cc := y.2.1) (nL := y.2.2.1) (Ts := ab_TS) (own := y.1.cls) (As := ca.reverse) (rest := cr') (b := a) ⟨hx, hb, hml, hown, hts⟩ (hM l hfl D ws H.size (.ref a :: ca.reverse) hR ⟨_, _, rfl, ⟨a, x0, ha, rfl⟩, g1r⟩) ⟨cb, hini, hts _ hins⟩ (ab_preS hP hD hKW)
    rfl (by rw [ab_S_len g1r]) hL.1 (by rw [List.reverse_reverse]) (lv_room (Nat.le_trans (ab_cats cr') (by rw [ab_S_len g2]; omega))) hd ⟨Nat.le_trans hc hmc, Nat.le_trans hs hms⟩) hD hS hA fun v u ws' cv H1 locs1 hp hvo hpp hR' hP' hD' hS' => ?_
  exact k v u hp p l e R σ m args below meth cd D A Q hC ws' H1 locs1 ls _ hR' hP' hD' hS' (hL.mono hpp) (ab_toV hvo (g2.mono hpp)) (fun v2 u2 ws2 H2 locs2 ls2 pc2 cv2 q1 q2 => hK v2 u2 ws2 H2 locs2 ls2 pc2 cv2 q1 (hpp.tr q2))
/-- a private constructor of a nest mate -/
theorem ab_callIN {q : Nat} (hM : ab_MET z d' mc' ms' (va_rf (some q) :: as) h P') (mf : ab_MF z as.length) (hret0 : z.2.2.2 = none) (hini : z.1.name = "<init>") {host : String} (hlk : (y.1.cls, idx, z.1, host) ∈ ab_nests) (hins : Cond.instanceMethod z.1 ∈ ab_TS) (hd : decode y.2.1 pc = .ok (.invokespecial idx, 3)) (hn : pc + 3 = pc') (hdd : d' + 1 ≤ d) (hc : c + mc' ≤ mc) (hs : s + ms' ≤ ms)
    (hst : as.reverse ++ va_rf (some q) :: st = stk) (hlen : st.length ≤ 4) (k : ∀ v u, P' v u → ab_T y d mc ms (c + mc') (s + ms') pc' lo (v.toList ++ st) u P) : ab_T y d mc ms c s pc lo stk h P := by
  intro p l e R σ m args below meth cd D A Q C ws H locs ls cst hR hP hD hS hL hT hK
  subst hst hn
  obtain ⟨ca, cr, rfl, g1, cv0, cr', rfl, ⟨a, x0, ha, hcv⟩, g2⟩ := ab_S_app hT
  subst hcv
  have g1r := ab_S_rev g1
  rw [List.reverse_reverse] at g1r
  have hC := C
  obtain ⟨hx, hb, hml, hown, hts, hKW, hfr, hlo, hmc, hms, hA, hnm, hlk2, hret, hfl, -⟩ := C
  obtain ⟨m1, m2, m3, m4, m5⟩ := mf
  have hw : ab_ws z = Cond.code z.1 z.2.1 z.2.2.1 none :: ab_TS := by rw [← hret0]; rfl
  refine ab_after (va_runIN (cc := y.2.1) (nL := y.2.2.1) (Ts := ab_TS) (own := y.1.cls) (As := ca.reverse) (rest := cr') (b := a) (n := as.length) ⟨hx, hb, hml, hown, hts⟩ (hM l hfl D ws H.size (.ref a :: ca.reverse) hR ⟨_, _, rfl, ⟨a, x0, ha, rfl⟩, g1r⟩) ⟨va_cnB as.length hts (ab_ws_good m1) hw rfl rfl (hKW.2.1 _ hlk) (hts _ m2) ⟨m3.1, m3.2, m4⟩ ⟨by show d' + 1 ≤ R.frames; omega, by show 8 + (z.2.2.1 + 11) + 64 * d' ≤ R.locals; omega⟩, hini, hts _ hins⟩ (ab_preS hP hD hKW)
    rfl (by rw [ab_S_len g1r]) hL.1 (by rw [List.reverse_reverse]) (lv_room (Nat.le_trans (ab_cats cr') (by rw [ab_S_len g2]; omega))) hd ⟨Nat.le_trans hc hmc, Nat.le_trans hs hms⟩) hD hS hA fun v u ws' cv H1 locs1 hp hvo hpp hR' hP' hD' hS' => ?_
  exact k v u hp p l e R σ m args below meth cd D A Q hC ws' H1 locs1 ls _ hR' hP' hD' hS' (hL.mono hpp) (ab_toV hvo (g2.mono hpp)) (fun v2 u2 ws2 H2 locs2 ls2 pc2 cv2 q1 q2 => hK v2 u2 ws2 H2 locs2 ls2 pc2 cv2 q1 (hpp.tr q2))
/-- an object's class, by its kind -/
theorem ab_obj {D : ab_G} {ws : va_W} {q a : Nat} {x : va_E} (hR : ab_R D h ws) (hq : ws[q]? = some (a, x)) (ht : (ab_shp q).1 < 6) : ∃ (ci : Nat) (fs : List Value), ci ∈ ab_cls (ab_shp q).1 ∧ x = .inr (ci, fs) ∧ fs.length = (ab_fk (ab_shp q).1).length ∧ ∀ k kd, (ab_fk (ab_shp q).1)[k]? = some kd → ∃ v, fs[k]? = some v ∧ ab_fv h ws q k kd v := by
  have g := hR.2 q a x hq
  unfold ab_ce at g
  rwa [if_pos ht] at g
/-- a method of the receiver's own class; inherited ones: the same with every class of the kind -/
theorem ab_callV {q t : Nat} {o : Option Nat} (ho : o = some q) (ht : (ab_shp q).1 = t) (ht6 : t < 6) (hM : ab_MET z d' mc' ms' (va_rf (some q) :: as) h P') (mf : ab_MF z as.length) (hlk : Cond.methodLink y.1.cls idx z.1 ∈ ab_TS) (hins : Cond.instanceMethod z.1 ∈ ab_TS)
    (hsel : (∀ ci ∈ ab_cls t, ∃ r : vw_C, vwCl[ci]? = some r ∧ Cond.selects r.1 z.1 z.1 ∈ ab_TS)) (hsame : (∀ ci ∈ ab_cls t, (vwCl[ci]?.map fun r => r.1) = some z.1.cls) ∨ Cond.sameMethod z.1.cls z.1.cls z.1.name z.1.desc ∈ ab_TS) (hd : decode y.2.1 pc = .ok (.invokevirtual idx, 3)) (hn : pc + 3 = pc') (hdd : d' + 1 ≤ d) (hc : c + mc' ≤ mc) (hs : s + ms' ≤ ms)
    (hst : as.reverse ++ va_rf o :: st = stk) (hlen : st.length ≤ 4) (k : ∀ v u, P' v u → ab_T y d mc ms (c + mc') (s + ms') pc' lo (v.toList ++ st) u P) : ab_T y d mc ms c s pc lo stk h P := by
  intro p l e R σ m args below meth cd D A Q C ws H locs ls cst hR hP hD hS hL hT hK
  subst ho hst hn
  obtain ⟨ca, cr, rfl, g1, cv0, cr', rfl, ⟨a, x0, ha, hcv⟩, g2⟩ := ab_S_app hT
  subst hcv
  have g1r := ab_S_rev g1
  rw [List.reverse_reverse] at g1r
  have hC := C
  obtain ⟨hx, hb, hml, hown, hts, hKW, hfr, hlo, hmc, hms, hA, hnm, hlk2, hret, hfl, -⟩ := C
  obtain ⟨ci, fs, hci, rfl, -⟩ := ab_obj hR ha (by omega)
  obtain ⟨r, hr, hsel⟩ := hsel ci (by rw [← ht]; exact hci)
  have hMl := hM l hfl D ws H.size (.ref a :: ca.reverse) hR ⟨_, _, rfl, ⟨a, _, ha, rfl⟩, g1r⟩
  have hp : PreV σ H r.1 a (va_Pc (.ref a :: ca.reverse) (ab_Wd D ws H.size)) ca.reverse := ⟨ab_blind, va_recv hKW.1 hP (ci := ci) (q0 := q) hr ha, (ab_preS hP hD hKW).2⟩
  have hrun : va_Run p l e R σ m args below meth cd H locs c s mc' ms' (F0 m pc ls (ca ++ .ref a :: cr')) cr' (ab_Qc P' D ws H.size (Value.ref a :: ca.reverse).toArray) (va_A ws H.size) := by
    rcases hsame with hsame | hsame
    · have hcl : r.1 = z.1.cls := by
        have q1 := hsame ci (by rw [← ht]; exact hci)
        rw [hr] at q1
        exact Option.some.inj q1
      exact va_runV (cc := y.2.1) (nL := y.2.2.1) (Ts := ab_TS) (own := y.1.cls) (As := ca.reverse) (rest := cr') (b := a) (C := r.1) ⟨hx, hb, hml, hown, hts⟩ hMl ⟨ab_callB hC mf (hts _ hlk) hdd, hts _ hins, hts _ hsel⟩ hp
        rfl (by rw [ab_S_len g1r]) hL.1 (by rw [List.reverse_reverse]) (lv_room (Nat.le_trans (ab_cats cr') (by rw [ab_S_len g2]; omega))) hd ⟨Nat.le_trans hc hmc, Nat.le_trans hs hms⟩
    · obtain ⟨c1, c2, c3, c4, c5, c6, c7, c8, c9, c10, c11⟩ := ab_callB (mc' := mc') (ms' := ms') (d' := d') hC mf (hts _ hlk) hdd
      exact va_runU (x := z.1) (owner := z.1.cls) (cc := y.2.1) (nL := y.2.2.1) (Ts := ab_TS) (own := y.1.cls) (As := ca.reverse) (rest := cr') (b := a) (C := r.1) ⟨hx, hb, hml, hown, hts⟩ hMl ⟨⟨c1, c2, c3, c4, c5, c6⟩, c7, c8, c9, c10, c11, hts _ hsame, va_Decl.of (hts _ hins) c7, hts _ hsel, hts _ hins⟩ hp
        rfl (by rw [ab_S_len g1r]) hL.1 (by rw [List.reverse_reverse]) (lv_room (Nat.le_trans (ab_cats cr') (by rw [ab_S_len g2]; omega))) hd ⟨Nat.le_trans hc hmc, Nat.le_trans hs hms⟩
  refine ab_after hrun hD hS hA fun v u ws' cv H1 locs1 hp hvo hpp hR' hP' hD' hS' => ?_
  exact k v u hp p l e R σ m args below meth cd D A Q hC ws' H1 locs1 ls _ hR' hP' hD' hS' (hL.mono hpp) (ab_toV hvo (g2.mono hpp)) (fun v2 u2 ws2 H2 locs2 ls2 pc2 cv2 q1 q2 => hK v2 u2 ws2 H2 locs2 ls2 pc2 cv2 q1 (hpp.tr q2))
end
def ab_lo : List Value → List (Option Value)
  | [] => []
  | v :: vs => some v :: (if v.category = 2 then none :: ab_lo vs else ab_lo vs)
def ab_lo0 (as : List Value) (n : Nat) : List (Option Value) := ab_lo as ++ List.replicate (n - (ab_lo as).length) none
end ABC
end
