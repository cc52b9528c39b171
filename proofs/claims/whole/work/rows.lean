section
-- ===== PART A: goes FIRST, ahead of the names: the tables' words, and 'selects' of the private methods out of them =====
/-- a private method of a class that the tables say can be made, by its rows of tables_1 -/
def lw_okq (q : MethodName × Nat) : Prop := (q.1.cls ≠ "java/lang/invoke/MethodHandle" ∧ q.1.cls ≠ "java/lang/invoke/VarHandle") ∧ Cond.instantiable q.1.cls q.2 ∈ tables_1 ∧ Cond.privateMethod q.1 ∈ tables_1 ∧ Cond.instanceMethod q.1 ∈ tables_1
theorem lw_p0 : lw_okq (⟨"SuitByTailors$Text", "byteAt", "(I)I"⟩, 3) := ⟨⟨by decide +kernel, by decide +kernel⟩, List.mem_of_getElem? (i := 25) (by decide +kernel), List.mem_of_getElem? (i := 293) (by decide +kernel), List.mem_of_getElem? (i := 294) (by decide +kernel)⟩
theorem lw_p1 : lw_okq (⟨"SuitByTailors$Text", "readItem", "(II)I"⟩, 3) := ⟨⟨by decide +kernel, by decide +kernel⟩, List.mem_of_getElem? (i := 25) (by decide +kernel), List.mem_of_getElem? (i := 300) (by decide +kernel), List.mem_of_getElem? (i := 301) (by decide +kernel)⟩
theorem lw_p2 : lw_okq (⟨"SuitByTailors$Text", "readNumber", "(II)I"⟩, 3) := ⟨⟨by decide +kernel, by decide +kernel⟩, List.mem_of_getElem? (i := 25) (by decide +kernel), List.mem_of_getElem? (i := 304) (by decide +kernel), List.mem_of_getElem? (i := 305) (by decide +kernel)⟩
theorem lw_p3 : lw_okq (⟨"SuitByTailors$Plan", "takesTailor", "(I)Z"⟩, 12) := ⟨⟨by decide +kernel, by decide +kernel⟩, List.mem_of_getElem? (i := 173) (by decide +kernel), List.mem_of_getElem? (i := 312) (by decide +kernel), List.mem_of_getElem? (i := 313) (by decide +kernel)⟩
theorem lw_p4 : lw_okq (⟨"SuitByTailors$Plan", "takesPart", "(III)Z"⟩, 12) := ⟨⟨by decide +kernel, by decide +kernel⟩, List.mem_of_getElem? (i := 173) (by decide +kernel), List.mem_of_getElem? (i := 316) (by decide +kernel), List.mem_of_getElem? (i := 317) (by decide +kernel)⟩
theorem lw_p5 : lw_okq (⟨"SuitByTailors$Plan", "takesSeam", "(II)Z"⟩, 12) := ⟨⟨by decide +kernel, by decide +kernel⟩, List.mem_of_getElem? (i := 173) (by decide +kernel), List.mem_of_getElem? (i := 324) (by decide +kernel), List.mem_of_getElem? (i := 325) (by decide +kernel)⟩
theorem lw_p6 : lw_okq (⟨"SuitByTailors$Plan", "takesGap", "(I)Z"⟩, 12) := ⟨⟨by decide +kernel, by decide +kernel⟩, List.mem_of_getElem? (i := 173) (by decide +kernel), List.mem_of_getElem? (i := 332) (by decide +kernel), List.mem_of_getElem? (i := 333) (by decide +kernel)⟩
theorem lw_p7 : lw_okq (⟨"SuitByTailors$Plan", "takesBoy", "(I)Z"⟩, 12) := ⟨⟨by decide +kernel, by decide +kernel⟩, List.mem_of_getElem? (i := 173) (by decide +kernel), List.mem_of_getElem? (i := 336) (by decide +kernel), List.mem_of_getElem? (i := 337) (by decide +kernel)⟩
theorem lw_p8 : lw_okq (⟨"SuitByTailors$Plan", "takesBolt", "(I)Z"⟩, 12) := ⟨⟨by decide +kernel, by decide +kernel⟩, List.mem_of_getElem? (i := 173) (by decide +kernel), List.mem_of_getElem? (i := 340) (by decide +kernel), List.mem_of_getElem? (i := 341) (by decide +kernel)⟩
theorem lw_p9 : lw_okq (⟨"SuitByTailors", "slipNow", "(I)I"⟩, 14) := ⟨⟨by decide +kernel, by decide +kernel⟩, List.mem_of_getElem? (i := 17) (by decide +kernel), List.mem_of_getElem? (i := 417) (by decide +kernel), List.mem_of_getElem? (i := 418) (by decide +kernel)⟩
theorem lw_p10 : lw_okq (⟨"SuitByTailors", "lengthNow", "(I)I"⟩, 14) := ⟨⟨by decide +kernel, by decide +kernel⟩, List.mem_of_getElem? (i := 17) (by decide +kernel), List.mem_of_getElem? (i := 439) (by decide +kernel), List.mem_of_getElem? (i := 440) (by decide +kernel)⟩
theorem lw_p11 : lw_okq (⟨"SuitByTailors", "measureNow", "()V"⟩, 14) := ⟨⟨by decide +kernel, by decide +kernel⟩, List.mem_of_getElem? (i := 17) (by decide +kernel), List.mem_of_getElem? (i := 451) (by decide +kernel), List.mem_of_getElem? (i := 452) (by decide +kernel)⟩
theorem lw_p12 : lw_okq (⟨"SuitByTailors$OrderSearch", "tryPlace", "(LSuitByTailors$Plan;II)V"⟩, 6) := ⟨⟨by decide +kernel, by decide +kernel⟩, List.mem_of_getElem? (i := 128) (by decide +kernel), List.mem_of_getElem? (i := 509) (by decide +kernel), List.mem_of_getElem? (i := 510) (by decide +kernel)⟩
theorem lw_p13 : lw_okq (⟨"SuitByTailors$OrderSearch", "isPlaced", "(I)Z"⟩, 6) := ⟨⟨by decide +kernel, by decide +kernel⟩, List.mem_of_getElem? (i := 128) (by decide +kernel), List.mem_of_getElem? (i := 513) (by decide +kernel), List.mem_of_getElem? (i := 514) (by decide +kernel)⟩
theorem lw_p14 : lw_okq (⟨"SuitByTailors$OrderSearch", "tryPart", "(LSuitByTailors$Plan;III)V"⟩, 6) := ⟨⟨by decide +kernel, by decide +kernel⟩, List.mem_of_getElem? (i := 128) (by decide +kernel), List.mem_of_getElem? (i := 517) (by decide +kernel), List.mem_of_getElem? (i := 518) (by decide +kernel)⟩
theorem lw_p15 : lw_okq (⟨"SuitByTailors$OrderSearch", "gapsWithPlaced", "(LSuitByTailors$Plan;I)I"⟩, 6) := ⟨⟨by decide +kernel, by decide +kernel⟩, List.mem_of_getElem? (i := 128) (by decide +kernel), List.mem_of_getElem? (i := 523) (by decide +kernel), List.mem_of_getElem? (i := 524) (by decide +kernel)⟩
def lw_privs_1 : List (MethodName × Nat) := [(⟨"SuitByTailors$Text", "byteAt", "(I)I"⟩, 3), (⟨"SuitByTailors$Text", "readItem", "(II)I"⟩, 3), (⟨"SuitByTailors$Text", "readNumber", "(II)I"⟩, 3), (⟨"SuitByTailors$Plan", "takesTailor", "(I)Z"⟩, 12), (⟨"SuitByTailors$Plan", "takesPart", "(III)Z"⟩, 12), (⟨"SuitByTailors$Plan", "takesSeam", "(II)Z"⟩, 12), (⟨"SuitByTailors$Plan", "takesGap", "(I)Z"⟩, 12), (⟨"SuitByTailors$Plan", "takesBoy", "(I)Z"⟩, 12), (⟨"SuitByTailors$Plan", "takesBolt", "(I)Z"⟩, 12), (⟨"SuitByTailors", "slipNow", "(I)I"⟩, 14), (⟨"SuitByTailors", "lengthNow", "(I)I"⟩, 14), (⟨"SuitByTailors", "measureNow", "()V"⟩, 14), (⟨"SuitByTailors$OrderSearch", "tryPlace", "(LSuitByTailors$Plan;II)V"⟩, 6), (⟨"SuitByTailors$OrderSearch", "isPlaced", "(I)Z"⟩, 6), (⟨"SuitByTailors$OrderSearch", "tryPart", "(LSuitByTailors$Plan;III)V"⟩, 6), (⟨"SuitByTailors$OrderSearch", "gapsWithPlaced", "(LSuitByTailors$Plan;I)I"⟩, 6)]
theorem lw_r1 : ∀ q ∈ lw_privs_1, lw_okq q := List.forall_mem_cons.mpr ⟨lw_p0, List.forall_mem_cons.mpr ⟨lw_p1, List.forall_mem_cons.mpr ⟨lw_p2, List.forall_mem_cons.mpr ⟨lw_p3, List.forall_mem_cons.mpr ⟨lw_p4, List.forall_mem_cons.mpr ⟨lw_p5, List.forall_mem_cons.mpr ⟨lw_p6, List.forall_mem_cons.mpr ⟨lw_p7, List.forall_mem_cons.mpr ⟨lw_p8, List.forall_mem_cons.mpr ⟨lw_p9, List.forall_mem_cons.mpr ⟨lw_p10, List.forall_mem_cons.mpr ⟨lw_p11, List.forall_mem_cons.mpr ⟨lw_p12, List.forall_mem_cons.mpr ⟨lw_p13, List.forall_mem_cons.mpr ⟨lw_p14, List.forall_mem_cons.mpr ⟨lw_p15, fun _ h => absurd h List.not_mem_nil⟩⟩⟩⟩⟩⟩⟩⟩⟩⟩⟩⟩⟩⟩⟩⟩
theorem lw_p16 : lw_okq (⟨"SuitByTailors", "isClosedByBribing", "(I)Z"⟩, 14) := ⟨⟨by decide +kernel, by decide +kernel⟩, List.mem_of_getElem? (i := 17) (by decide +kernel), List.mem_of_getElem? (i := 536) (by decide +kernel), List.mem_of_getElem? (i := 537) (by decide +kernel)⟩
theorem lw_p17 : lw_okq (⟨"SuitByTailors", "levelSeams", "()V"⟩, 14) := ⟨⟨by decide +kernel, by decide +kernel⟩, List.mem_of_getElem? (i := 17) (by decide +kernel), List.mem_of_getElem? (i := 544) (by decide +kernel), List.mem_of_getElem? (i := 545) (by decide +kernel)⟩
theorem lw_p18 : lw_okq (⟨"SuitByTailors$BoltSearch", "findsBolts", "(LSuitByTailors$Plan;[III)Z"⟩, 3) := ⟨⟨by decide +kernel, by decide +kernel⟩, List.mem_of_getElem? (i := 156) (by decide +kernel), List.mem_of_getElem? (i := 586) (by decide +kernel), List.mem_of_getElem? (i := 587) (by decide +kernel)⟩
theorem lw_p19 : lw_okq (⟨"SuitByTailors$BoltSearch", "findsRest", "(LSuitByTailors$Plan;[III)Z"⟩, 3) := ⟨⟨by decide +kernel, by decide +kernel⟩, List.mem_of_getElem? (i := 156) (by decide +kernel), List.mem_of_getElem? (i := 590) (by decide +kernel), List.mem_of_getElem? (i := 591) (by decide +kernel)⟩
theorem lw_p20 : lw_okq (⟨"SuitByTailors", "cutByBoy", "(I)V"⟩, 14) := ⟨⟨by decide +kernel, by decide +kernel⟩, List.mem_of_getElem? (i := 17) (by decide +kernel), List.mem_of_getElem? (i := 624) (by decide +kernel), List.mem_of_getElem? (i := 625) (by decide +kernel)⟩
theorem lw_p21 : lw_okq (⟨"SuitByTailorsModel", "begins", "()V"⟩, 23) := ⟨⟨by decide +kernel, by decide +kernel⟩, List.mem_of_getElem? (i := 640) (by decide +kernel), List.mem_of_getElem? (i := 646) (by decide +kernel), List.mem_of_getElem? (i := 647) (by decide +kernel)⟩
theorem lw_p22 : lw_okq (⟨"SuitByTailorsModel", "takes", "()V"⟩, 23) := ⟨⟨by decide +kernel, by decide +kernel⟩, List.mem_of_getElem? (i := 640) (by decide +kernel), List.mem_of_getElem? (i := 650) (by decide +kernel), List.mem_of_getElem? (i := 651) (by decide +kernel)⟩
theorem lw_p23 : lw_okq (⟨"SuitByTailorsModel", "isItem", "()Z"⟩, 23) := ⟨⟨by decide +kernel, by decide +kernel⟩, List.mem_of_getElem? (i := 640) (by decide +kernel), List.mem_of_getElem? (i := 740) (by decide +kernel), List.mem_of_getElem? (i := 741) (by decide +kernel)⟩
theorem lw_p24 : lw_okq (⟨"SuitByTailorsModel", "number", "()I"⟩, 23) := ⟨⟨by decide +kernel, by decide +kernel⟩, List.mem_of_getElem? (i := 640) (by decide +kernel), List.mem_of_getElem? (i := 747) (by decide +kernel), List.mem_of_getElem? (i := 748) (by decide +kernel)⟩
theorem lw_p25 : lw_okq (⟨"SuitByTailorsModel", "isGood", "(I)Z"⟩, 23) := ⟨⟨by decide +kernel, by decide +kernel⟩, List.mem_of_getElem? (i := 640) (by decide +kernel), List.mem_of_getElem? (i := 754) (by decide +kernel), List.mem_of_getElem? (i := 755) (by decide +kernel)⟩
theorem lw_p26 : lw_okq (⟨"SuitByTailorsModel", "isPart", "(I)Z"⟩, 23) := ⟨⟨by decide +kernel, by decide +kernel⟩, List.mem_of_getElem? (i := 640) (by decide +kernel), List.mem_of_getElem? (i := 771) (by decide +kernel), List.mem_of_getElem? (i := 772) (by decide +kernel)⟩
theorem lw_p27 : lw_okq (⟨"SuitByTailorsModel", "placeOf", "(I)I"⟩, 23) := ⟨⟨by decide +kernel, by decide +kernel⟩, List.mem_of_getElem? (i := 640) (by decide +kernel), List.mem_of_getElem? (i := 776) (by decide +kernel), List.mem_of_getElem? (i := 777) (by decide +kernel)⟩
theorem lw_p28 : lw_okq (⟨"SuitByTailorsModel", "slipNow", "(I)I"⟩, 23) := ⟨⟨by decide +kernel, by decide +kernel⟩, List.mem_of_getElem? (i := 640) (by decide +kernel), List.mem_of_getElem? (i := 780) (by decide +kernel), List.mem_of_getElem? (i := 781) (by decide +kernel)⟩
theorem lw_p29 : lw_okq (⟨"SuitByTailorsModel", "cutOf", "(II)I"⟩, 23) := ⟨⟨by decide +kernel, by decide +kernel⟩, List.mem_of_getElem? (i := 640) (by decide +kernel), List.mem_of_getElem? (i := 791) (by decide +kernel), List.mem_of_getElem? (i := 792) (by decide +kernel)⟩
theorem lw_p30 : lw_okq (⟨"SuitByTailorsModel", "lengths", "()V"⟩, 23) := ⟨⟨by decide +kernel, by decide +kernel⟩, List.mem_of_getElem? (i := 640) (by decide +kernel), List.mem_of_getElem? (i := 800) (by decide +kernel), List.mem_of_getElem? (i := 801) (by decide +kernel)⟩
theorem lw_p31 : lw_okq (⟨"SuitByTailorsModel", "gaps", "()I"⟩, 23) := ⟨⟨by decide +kernel, by decide +kernel⟩, List.mem_of_getElem? (i := 640) (by decide +kernel), List.mem_of_getElem? (i := 804) (by decide +kernel), List.mem_of_getElem? (i := 805) (by decide +kernel)⟩
def lw_privs_2 : List (MethodName × Nat) := [(⟨"SuitByTailors", "isClosedByBribing", "(I)Z"⟩, 14), (⟨"SuitByTailors", "levelSeams", "()V"⟩, 14), (⟨"SuitByTailors$BoltSearch", "findsBolts", "(LSuitByTailors$Plan;[III)Z"⟩, 3), (⟨"SuitByTailors$BoltSearch", "findsRest", "(LSuitByTailors$Plan;[III)Z"⟩, 3), (⟨"SuitByTailors", "cutByBoy", "(I)V"⟩, 14), (⟨"SuitByTailorsModel", "begins", "()V"⟩, 23), (⟨"SuitByTailorsModel", "takes", "()V"⟩, 23), (⟨"SuitByTailorsModel", "isItem", "()Z"⟩, 23), (⟨"SuitByTailorsModel", "number", "()I"⟩, 23), (⟨"SuitByTailorsModel", "isGood", "(I)Z"⟩, 23), (⟨"SuitByTailorsModel", "isPart", "(I)Z"⟩, 23), (⟨"SuitByTailorsModel", "placeOf", "(I)I"⟩, 23), (⟨"SuitByTailorsModel", "slipNow", "(I)I"⟩, 23), (⟨"SuitByTailorsModel", "cutOf", "(II)I"⟩, 23), (⟨"SuitByTailorsModel", "lengths", "()V"⟩, 23), (⟨"SuitByTailorsModel", "gaps", "()I"⟩, 23)]
theorem lw_r2 : ∀ q ∈ lw_privs_2, lw_okq q := List.forall_mem_cons.mpr ⟨lw_p16, List.forall_mem_cons.mpr ⟨lw_p17, List.forall_mem_cons.mpr ⟨lw_p18, List.forall_mem_cons.mpr ⟨lw_p19, List.forall_mem_cons.mpr ⟨lw_p20, List.forall_mem_cons.mpr ⟨lw_p21, List.forall_mem_cons.mpr ⟨lw_p22, List.forall_mem_cons.mpr ⟨lw_p23, List.forall_mem_cons.mpr ⟨lw_p24, List.forall_mem_cons.mpr ⟨lw_p25, List.forall_mem_cons.mpr ⟨lw_p26, List.forall_mem_cons.mpr ⟨lw_p27, List.forall_mem_cons.mpr ⟨lw_p28, List.forall_mem_cons.mpr ⟨lw_p29, List.forall_mem_cons.mpr ⟨lw_p30, List.forall_mem_cons.mpr ⟨lw_p31, fun _ h => absurd h List.not_mem_nil⟩⟩⟩⟩⟩⟩⟩⟩⟩⟩⟩⟩⟩⟩⟩⟩
theorem lw_p32 : lw_okq (⟨"SuitByTailorsModel", "gapOf", "(I)I"⟩, 23) := ⟨⟨by decide +kernel, by decide +kernel⟩, List.mem_of_getElem? (i := 640) (by decide +kernel), List.mem_of_getElem? (i := 808) (by decide +kernel), List.mem_of_getElem? (i := 809) (by decide +kernel)⟩
theorem lw_p33 : lw_okq (⟨"SuitByTailorsModel", "isClosed", "()Z"⟩, 23) := ⟨⟨by decide +kernel, by decide +kernel⟩, List.mem_of_getElem? (i := 640) (by decide +kernel), List.mem_of_getElem? (i := 816) (by decide +kernel), List.mem_of_getElem? (i := 817) (by decide +kernel)⟩
theorem lw_p34 : lw_okq (⟨"SuitByTailorsModel", "known", "()V"⟩, 23) := ⟨⟨by decide +kernel, by decide +kernel⟩, List.mem_of_getElem? (i := 640) (by decide +kernel), List.mem_of_getElem? (i := 824) (by decide +kernel), List.mem_of_getElem? (i := 825) (by decide +kernel)⟩
theorem lw_p35 : lw_okq (⟨"SuitByTailorsModel", "copies", "(II)V"⟩, 23) := ⟨⟨by decide +kernel, by decide +kernel⟩, List.mem_of_getElem? (i := 640) (by decide +kernel), List.mem_of_getElem? (i := 828) (by decide +kernel), List.mem_of_getElem? (i := 829) (by decide +kernel)⟩
theorem lw_p36 : lw_okq (⟨"SuitByTailorsModel", "nextOrder", "()Z"⟩, 23) := ⟨⟨by decide +kernel, by decide +kernel⟩, List.mem_of_getElem? (i := 640) (by decide +kernel), List.mem_of_getElem? (i := 848) (by decide +kernel), List.mem_of_getElem? (i := 849) (by decide +kernel)⟩
theorem lw_p37 : lw_okq (⟨"SuitByTailorsModel", "isTailor", "(I)Z"⟩, 23) := ⟨⟨by decide +kernel, by decide +kernel⟩, List.mem_of_getElem? (i := 640) (by decide +kernel), List.mem_of_getElem? (i := 864) (by decide +kernel), List.mem_of_getElem? (i := 865) (by decide +kernel)⟩
theorem lw_p38 : lw_okq (⟨"SuitByTailorsModel", "many", "()I"⟩, 23) := ⟨⟨by decide +kernel, by decide +kernel⟩, List.mem_of_getElem? (i := 640) (by decide +kernel), List.mem_of_getElem? (i := 884) (by decide +kernel), List.mem_of_getElem? (i := 885) (by decide +kernel)⟩
theorem lw_p39 : lw_okq (⟨"SuitByTailorsModel", "nextBolts", "()Z"⟩, 23) := ⟨⟨by decide +kernel, by decide +kernel⟩, List.mem_of_getElem? (i := 640) (by decide +kernel), List.mem_of_getElem? (i := 888) (by decide +kernel), List.mem_of_getElem? (i := 889) (by decide +kernel)⟩
theorem lw_p40 : lw_okq (⟨"SuitByTailorsModel", "tailorOf", "(II)I"⟩, 23) := ⟨⟨by decide +kernel, by decide +kernel⟩, List.mem_of_getElem? (i := 640) (by decide +kernel), List.mem_of_getElem? (i := 900) (by decide +kernel), List.mem_of_getElem? (i := 901) (by decide +kernel)⟩
def lw_privs_3 : List (MethodName × Nat) := [(⟨"SuitByTailorsModel", "gapOf", "(I)I"⟩, 23), (⟨"SuitByTailorsModel", "isClosed", "()Z"⟩, 23), (⟨"SuitByTailorsModel", "known", "()V"⟩, 23), (⟨"SuitByTailorsModel", "copies", "(II)V"⟩, 23), (⟨"SuitByTailorsModel", "nextOrder", "()Z"⟩, 23), (⟨"SuitByTailorsModel", "isTailor", "(I)Z"⟩, 23), (⟨"SuitByTailorsModel", "many", "()I"⟩, 23), (⟨"SuitByTailorsModel", "nextBolts", "()Z"⟩, 23), (⟨"SuitByTailorsModel", "tailorOf", "(II)I"⟩, 23)]
theorem lw_r3 : ∀ q ∈ lw_privs_3, lw_okq q := List.forall_mem_cons.mpr ⟨lw_p32, List.forall_mem_cons.mpr ⟨lw_p33, List.forall_mem_cons.mpr ⟨lw_p34, List.forall_mem_cons.mpr ⟨lw_p35, List.forall_mem_cons.mpr ⟨lw_p36, List.forall_mem_cons.mpr ⟨lw_p37, List.forall_mem_cons.mpr ⟨lw_p38, List.forall_mem_cons.mpr ⟨lw_p39, List.forall_mem_cons.mpr ⟨lw_p40, fun _ h => absurd h List.not_mem_nil⟩⟩⟩⟩⟩⟩⟩⟩⟩
def lw_privs : List (MethodName × Nat) := lw_privs_1 ++ (lw_privs_2 ++ (lw_privs_3))
def lw_tbl : List Cond := k2_sels lw_privs ++ tables_1
theorem lw_privs_ok : ∀ q ∈ lw_privs, lw_okq q := by
  show ∀ q ∈ lw_privs_1 ++ (lw_privs_2 ++ (lw_privs_3)), lw_okq q
  exact List.forall_mem_append.mpr ⟨lw_r1, List.forall_mem_append.mpr ⟨lw_r2, lw_r3⟩⟩
end
section
/-! names, fields, codes: as printed for this claim (claim/NAMES.whole), less its word lists -/
def RX0 : String := "SuitByTailors$BoltSearch"
def TX0 : u_T := fun k => match k with
  | 0 => ("SuitByTailors$BoltSearch", "boltOf", "[I", true)
  | 1 => ("SuitByTailors$BoltSearch", "filled", "[I", true)
  | _ => ("SuitByTailors$BoltSearch", "most", "I", false)
def tyX0 : Nat → FieldType := fun k => match k with
  | 0 => .array .int
  | 1 => .array .int
  | _ => .int
abbrev wsX00 : List Cond := u_ws RX0 TX0 3
theorem nmX0 : ∀ a, a < 3 → ∀ b, b < 3 → a ≠ b → (TX0 a).2.1 ≠ (TX0 b).2.1 := by decide +kernel
theorem tyX0_ok : ∀ k, k < 3 → parseFieldDescriptor (TX0 k).2.2.1 = some (tyX0 k) := by decide +kernel
abbrev cX0_init : ByteArray := prog_2_method_1_code
def yX0_init : MethodName := ⟨RX0, "<init>", "()V"⟩
abbrev cX0_search : ByteArray := prog_2_method_2_code
def yX0_search : MethodName := ⟨RX0, "search", "(LSuitByTailors$Plan;[I)I"⟩
abbrev cX0_findsBolts : ByteArray := prog_2_method_3_code
def yX0_findsBolts : MethodName := ⟨RX0, "findsBolts", "(LSuitByTailors$Plan;[III)Z"⟩
abbrev cX0_findsRest : ByteArray := prog_2_method_4_code
def yX0_findsRest : MethodName := ⟨RX0, "findsRest", "(LSuitByTailors$Plan;[III)Z"⟩
def RX1 : String := "SuitByTailors$Fitting"
def TX1 : u_T := fun k => match k with
  | 0 => ("SuitByTailors$Fitting", "partAt", "[I", true)
  | _ => ("SuitByTailors$Fitting", "longerBy", "[I", true)
def tyX1 : Nat → FieldType := fun k => match k with
  | 0 => .array .int
  | _ => .array .int
abbrev wsX10 : List Cond := u_ws RX1 TX1 2
theorem nmX1 : ∀ a, a < 2 → ∀ b, b < 2 → a ≠ b → (TX1 a).2.1 ≠ (TX1 b).2.1 := by decide +kernel
theorem tyX1_ok : ∀ k, k < 2 → parseFieldDescriptor (TX1 k).2.2.1 = some (tyX1 k) := by decide +kernel
abbrev cX1_init : ByteArray := prog_3_method_1_code
def yX1_init : MethodName := ⟨RX1, "<init>", "()V"⟩
abbrev cX1_startAnew : ByteArray := prog_3_method_2_code
def yX1_startAnew : MethodName := ⟨RX1, "startAnew", "()V"⟩
abbrev cX1_placeOf : ByteArray := prog_3_method_3_code
def yX1_placeOf : MethodName := ⟨RX1, "placeOf", "(I)I"⟩
abbrev cX1_swapPlaces : ByteArray := prog_3_method_4_code
def yX1_swapPlaces : MethodName := ⟨RX1, "swapPlaces", "(II)V"⟩
def RX2 : String := "SuitByTailors$FittingStack"
def TX2 : u_T := fun k => match k with
  | 0 => ("SuitByTailors$FittingStack", "most", "I", true)
  | 1 => ("SuitByTailors$FittingStack", "partAt", "[I", true)
  | 2 => ("SuitByTailors$FittingStack", "longerBy", "[I", true)
  | 3 => ("SuitByTailors$FittingStack", "size", "I", false)
  | _ => ("SuitByTailors$FittingStack", "next", "I", false)
def tyX2 : Nat → FieldType := fun k => match k with
  | 0 => .int
  | 1 => .array .int
  | 2 => .array .int
  | 3 => .int
  | _ => .int
abbrev wsX20 : List Cond := u_ws RX2 TX2 5
theorem nmX2 : ∀ a, a < 5 → ∀ b, b < 5 → a ≠ b → (TX2 a).2.1 ≠ (TX2 b).2.1 := by decide +kernel
theorem tyX2_ok : ∀ k, k < 5 → parseFieldDescriptor (TX2 k).2.2.1 = some (tyX2 k) := by decide +kernel
abbrev cX2_init : ByteArray := prog_4_method_1_code
def yX2_init : MethodName := ⟨RX2, "<init>", "(I)V"⟩
abbrev cX2_clear : ByteArray := prog_4_method_2_code
def yX2_clear : MethodName := ⟨RX2, "clear", "()V"⟩
abbrev cX2_push : ByteArray := prog_4_method_3_code
def yX2_push : MethodName := ⟨RX2, "push", "(LSuitByTailors$Fitting;)V"⟩
abbrev cX2_popInto : ByteArray := prog_4_method_4_code
def yX2_popInto : MethodName := ⟨RX2, "popInto", "(LSuitByTailors$Fitting;)V"⟩
def RX3 : String := "SuitByTailors$OrderSearch"
def TX3 : u_T := fun k => match k with
  | 0 => ("SuitByTailors$OrderSearch", "best", "[I", true)
  | 1 => ("SuitByTailors$OrderSearch", "known", "Z", false)
  | 2 => ("SuitByTailors$OrderSearch", "leastSum", "I", false)
  | 3 => ("SuitByTailors$OrderSearch", "tried", "[I", true)
  | 4 => ("SuitByTailors$OrderSearch", "row", "[I", true)
  | _ => ("SuitByTailors$OrderSearch", "placed", "I", false)
def tyX3 : Nat → FieldType := fun k => match k with
  | 0 => .array .int
  | 1 => .boolean
  | 2 => .int
  | 3 => .array .int
  | 4 => .array .int
  | _ => .int
abbrev wsX30 : List Cond := u_ws RX3 TX3 6
theorem nmX3 : ∀ a, a < 6 → ∀ b, b < 6 → a ≠ b → (TX3 a).2.1 ≠ (TX3 b).2.1 := by decide +kernel
theorem tyX3_ok : ∀ k, k < 6 → parseFieldDescriptor (TX3 k).2.2.1 = some (tyX3 k) := by decide +kernel
abbrev cX3_init : ByteArray := prog_5_method_1_code
def yX3_init : MethodName := ⟨RX3, "<init>", "()V"⟩
abbrev cX3_search : ByteArray := prog_5_method_2_code
def yX3_search : MethodName := ⟨RX3, "search", "(LSuitByTailors$Plan;)V"⟩
abbrev cX3_tryPlace : ByteArray := prog_5_method_3_code
def yX3_tryPlace : MethodName := ⟨RX3, "tryPlace", "(LSuitByTailors$Plan;II)V"⟩
abbrev cX3_tryPart : ByteArray := prog_5_method_4_code
def yX3_tryPart : MethodName := ⟨RX3, "tryPart", "(LSuitByTailors$Plan;III)V"⟩
abbrev cX3_gapsWithPlaced : ByteArray := prog_5_method_5_code
def yX3_gapsWithPlaced : MethodName := ⟨RX3, "gapsWithPlaced", "(LSuitByTailors$Plan;I)I"⟩
abbrev cX3_isPlaced : ByteArray := prog_5_method_6_code
def yX3_isPlaced : MethodName := ⟨RX3, "isPlaced", "(I)Z"⟩
def RX4 : String := "SuitByTailors$Pins"
def TX4 : u_T := fun k => match k with
  | 0 => ("SuitByTailors$Pins", "seamOf", "[I", true)
  | 1 => ("SuitByTailors$Pins", "tailorOf", "[I", true)
  | _ => ("SuitByTailors$Pins", "size", "I", false)
def tyX4 : Nat → FieldType := fun k => match k with
  | 0 => .array .int
  | 1 => .array .int
  | _ => .int
abbrev wsX40 : List Cond := u_ws RX4 TX4 3
theorem nmX4 : ∀ a, a < 3 → ∀ b, b < 3 → a ≠ b → (TX4 a).2.1 ≠ (TX4 b).2.1 := by decide +kernel
theorem tyX4_ok : ∀ k, k < 3 → parseFieldDescriptor (TX4 k).2.2.1 = some (tyX4 k) := by decide +kernel
abbrev cX4_init : ByteArray := prog_6_method_1_code
def yX4_init : MethodName := ⟨RX4, "<init>", "()V"⟩
abbrev cX4_add : ByteArray := prog_6_method_2_code
def yX4_add : MethodName := ⟨RX4, "add", "(II)V"⟩
abbrev cX4_countIn : ByteArray := prog_6_method_3_code
def yX4_countIn : MethodName := ⟨RX4, "countIn", "(I)I"⟩
def RX5 : String := "SuitByTailors$Plan"
def TX5 : u_T := fun k => match k with
  | 0 => ("SuitByTailors$Plan", "inches", "[I", true)
  | 1 => ("SuitByTailors$Plan", "tailorOf", "[I", true)
  | 2 => ("SuitByTailors$Plan", "lengthOf", "[I", true)
  | 3 => ("SuitByTailors$Plan", "bribeFor", "[I", true)
  | 4 => ("SuitByTailors$Plan", "firstOf", "[I", true)
  | 5 => ("SuitByTailors$Plan", "secondOf", "[I", true)
  | 6 => ("SuitByTailors$Plan", "tailors", "I", false)
  | 7 => ("SuitByTailors$Plan", "parts", "I", false)
  | 8 => ("SuitByTailors$Plan", "seams", "I", false)
  | 9 => ("SuitByTailors$Plan", "widestGap", "I", false)
  | 10 => ("SuitByTailors$Plan", "boy", "I", false)
  | _ => ("SuitByTailors$Plan", "boltLength", "I", false)
def tyX5 : Nat → FieldType := fun k => match k with
  | 0 => .array .int
  | 1 => .array .int
  | 2 => .array .int
  | 3 => .array .int
  | 4 => .array .int
  | 5 => .array .int
  | 6 => .int
  | 7 => .int
  | 8 => .int
  | 9 => .int
  | 10 => .int
  | _ => .int
abbrev wsX50 : List Cond := u_ws RX5 TX5 12
theorem nmX5 : ∀ a, a < 12 → ∀ b, b < 12 → a ≠ b → (TX5 a).2.1 ≠ (TX5 b).2.1 := by decide +kernel
theorem tyX5_ok : ∀ k, k < 12 → parseFieldDescriptor (TX5 k).2.2.1 = some (tyX5 k) := by decide +kernel
abbrev cX5_init : ByteArray := prog_7_method_1_code
def yX5_init : MethodName := ⟨RX5, "<init>", "()V"⟩
abbrev cX5_clear : ByteArray := prog_7_method_2_code
def yX5_clear : MethodName := ⟨RX5, "clear", "()V"⟩
abbrev cX5_hasTailor : ByteArray := prog_7_method_3_code
def yX5_hasTailor : MethodName := ⟨RX5, "hasTailor", "(I)Z"⟩
abbrev cX5_hasPart : ByteArray := prog_7_method_4_code
def yX5_hasPart : MethodName := ⟨RX5, "hasPart", "(I)Z"⟩
abbrev cX5_hasSeam : ByteArray := prog_7_method_5_code
def yX5_hasSeam : MethodName := ⟨RX5, "hasSeam", "(I)Z"⟩
abbrev cX5_takes : ByteArray := prog_7_method_6_code
def yX5_takes : MethodName := ⟨RX5, "takes", "(I[I)Z"⟩
abbrev cX5_takesTailor : ByteArray := prog_7_method_7_code
def yX5_takesTailor : MethodName := ⟨RX5, "takesTailor", "(I)Z"⟩
abbrev cX5_takesPart : ByteArray := prog_7_method_8_code
def yX5_takesPart : MethodName := ⟨RX5, "takesPart", "(III)Z"⟩
abbrev cX5_takesSeam : ByteArray := prog_7_method_9_code
def yX5_takesSeam : MethodName := ⟨RX5, "takesSeam", "(II)Z"⟩
abbrev cX5_takesGap : ByteArray := prog_7_method_10_code
def yX5_takesGap : MethodName := ⟨RX5, "takesGap", "(I)Z"⟩
abbrev cX5_takesBoy : ByteArray := prog_7_method_11_code
def yX5_takesBoy : MethodName := ⟨RX5, "takesBoy", "(I)Z"⟩
abbrev cX5_takesBolt : ByteArray := prog_7_method_12_code
def yX5_takesBolt : MethodName := ⟨RX5, "takesBolt", "(I)Z"⟩
abbrev cX5_slip : ByteArray := prog_7_method_13_code
def yX5_slip : MethodName := ⟨RX5, "slip", "(III)I"⟩
abbrev cX5_cutLength : ByteArray := prog_7_method_14_code
def yX5_cutLength : MethodName := ⟨RX5, "cutLength", "(II)I"⟩
abbrev cX5_byInch : ByteArray := prog_7_method_15_code
def yX5_byInch : MethodName := ⟨RX5, "byInch", "(II)I"⟩
abbrev cX5_gapOf : ByteArray := prog_7_method_16_code
def yX5_gapOf : MethodName := ⟨RX5, "gapOf", "(I[I)I"⟩
abbrev cX5_sumOfGaps : ByteArray := prog_7_method_17_code
def yX5_sumOfGaps : MethodName := ⟨RX5, "sumOfGaps", "([I)I"⟩
abbrev cX5_isClosedBy : ByteArray := prog_7_method_18_code
def yX5_isClosedBy : MethodName := ⟨RX5, "isClosedBy", "([I)Z"⟩
abbrev cX5_sumOfSet : ByteArray := prog_7_method_19_code
def yX5_sumOfSet : MethodName := ⟨RX5, "sumOfSet", "([II)I"⟩
def RX6 : String := "SuitByTailors$Sightings"
def TX6 : u_T := fun k => match k with
  | 0 => ("SuitByTailors$Sightings", "tailorOf", "[I", true)
  | 1 => ("SuitByTailors$Sightings", "toldOf", "[I", true)
  | 2 => ("SuitByTailors$Sightings", "cutOf", "[I", true)
  | _ => ("SuitByTailors$Sightings", "size", "I", false)
def tyX6 : Nat → FieldType := fun k => match k with
  | 0 => .array .int
  | 1 => .array .int
  | 2 => .array .int
  | _ => .int
abbrev wsX60 : List Cond := u_ws RX6 TX6 4
theorem nmX6 : ∀ a, a < 4 → ∀ b, b < 4 → a ≠ b → (TX6 a).2.1 ≠ (TX6 b).2.1 := by decide +kernel
theorem tyX6_ok : ∀ k, k < 4 → parseFieldDescriptor (TX6 k).2.2.1 = some (tyX6 k) := by decide +kernel
abbrev cX6_init : ByteArray := prog_8_method_1_code
def yX6_init : MethodName := ⟨RX6, "<init>", "()V"⟩
abbrev cX6_add : ByteArray := prog_8_method_2_code
def yX6_add : MethodName := ⟨RX6, "add", "(III)V"⟩
abbrev cX6_agreeWith : ByteArray := prog_8_method_3_code
def yX6_agreeWith : MethodName := ⟨RX6, "agreeWith", "(II)Z"⟩
def RX7 : String := "SuitByTailors$Text"
def TX7 : u_T := fun k => match k with
  | 0 => ("SuitByTailors$Text", "bytes", "[B", true)
  | 1 => ("SuitByTailors$Text", "numbers", "[I", true)
  | _ => ("SuitByTailors$Text", "length", "I", false)
def tyX7 : Nat → FieldType := fun k => match k with
  | 0 => .array .byte
  | 1 => .array .int
  | _ => .int
abbrev wsX70 : List Cond := u_ws RX7 TX7 3
theorem nmX7 : ∀ a, a < 3 → ∀ b, b < 3 → a ≠ b → (TX7 a).2.1 ≠ (TX7 b).2.1 := by decide +kernel
theorem tyX7_ok : ∀ k, k < 3 → parseFieldDescriptor (TX7 k).2.2.1 = some (tyX7 k) := by decide +kernel
abbrev cX7_init : ByteArray := prog_9_method_1_code
def yX7_init : MethodName := ⟨RX7, "<init>", "()V"⟩
abbrev cX7_append : ByteArray := prog_9_method_2_code
def yX7_append : MethodName := ⟨RX7, "append", "(I)V"⟩
abbrev cX7_readInto : ByteArray := prog_9_method_3_code
def yX7_readInto : MethodName := ⟨RX7, "readInto", "(LSuitByTailors$Plan;)I"⟩
abbrev cX7_numbersBehind : ByteArray := prog_9_method_4_code
def yX7_numbersBehind : MethodName := ⟨RX7, "numbersBehind", "(I)I"⟩
abbrev cX7_readItem : ByteArray := prog_9_method_5_code
def yX7_readItem : MethodName := ⟨RX7, "readItem", "(II)I"⟩
abbrev cX7_readNumber : ByteArray := prog_9_method_6_code
def yX7_readNumber : MethodName := ⟨RX7, "readNumber", "(II)I"⟩
abbrev cX7_byteAt : ByteArray := prog_9_method_7_code
def yX7_byteAt : MethodName := ⟨RX7, "byteAt", "(I)I"⟩
def RX8 : String := "SuitByTailors"
def TX8 : u_T := fun k => match k with
  | 0 => ("SuitByTailors", "text", "LSuitByTailors$Text;", true)
  | 1 => ("SuitByTailors", "fitting", "LSuitByTailors$Fitting;", true)
  | 2 => ("SuitByTailors", "undoable", "LSuitByTailors$FittingStack;", true)
  | 3 => ("SuitByTailors", "kept", "LSuitByTailors$FittingStack;", true)
  | 4 => ("SuitByTailors", "sightings", "LSuitByTailors$Sightings;", true)
  | 5 => ("SuitByTailors", "pins", "LSuitByTailors$Pins;", true)
  | 6 => ("SuitByTailors", "orderSearch", "LSuitByTailors$OrderSearch;", true)
  | 7 => ("SuitByTailors", "boltSearch", "LSuitByTailors$BoltSearch;", true)
  | 8 => ("SuitByTailors", "lengths", "[I", true)
  | 9 => ("SuitByTailors", "toldTrue", "[I", true)
  | 10 => ("SuitByTailors", "toldByBoy", "[I", true)
  | 11 => ("SuitByTailors", "shortest", "[I", true)
  | 12 => ("SuitByTailors", "plan", "LSuitByTailors$Plan;", false)
  | _ => ("SuitByTailors", "draft", "LSuitByTailors$Plan;", false)
def tyX8 : Nat → FieldType := fun k => match k with
  | 0 => .object "SuitByTailors$Text"
  | 1 => .object "SuitByTailors$Fitting"
  | 2 => .object "SuitByTailors$FittingStack"
  | 3 => .object "SuitByTailors$FittingStack"
  | 4 => .object "SuitByTailors$Sightings"
  | 5 => .object "SuitByTailors$Pins"
  | 6 => .object "SuitByTailors$OrderSearch"
  | 7 => .object "SuitByTailors$BoltSearch"
  | 8 => .array .int
  | 9 => .array .int
  | 10 => .array .int
  | 11 => .array .int
  | 12 => .object "SuitByTailors$Plan"
  | _ => .object "SuitByTailors$Plan"
abbrev wsX80 : List Cond := u_ws RX8 TX8 14
theorem nmX8 : ∀ a, a < 14 → ∀ b, b < 14 → a ≠ b → (TX8 a).2.1 ≠ (TX8 b).2.1 := by decide +kernel
theorem tyX8_ok : ∀ k, k < 14 → parseFieldDescriptor (TX8 k).2.2.1 = some (tyX8 k) := by decide +kernel
abbrev cX8_init : ByteArray := prog_1_method_1_code
def yX8_init : MethodName := ⟨RX8, "<init>", "()V"⟩
abbrev cX8_write : ByteArray := prog_1_method_2_code
def yX8_write : MethodName := ⟨RX8, "write", "(IJ)I"⟩
abbrev cX8_wipe : ByteArray := prog_1_method_3_code
def yX8_wipe : MethodName := ⟨RX8, "wipe", "()I"⟩
abbrev cX8_fault : ByteArray := prog_1_method_4_code
def yX8_fault : MethodName := ⟨RX8, "fault", "()I"⟩
abbrev cX8_lay : ByteArray := prog_1_method_5_code
def yX8_lay : MethodName := ⟨RX8, "lay", "()I"⟩
abbrev cX8_part : ByteArray := prog_1_method_6_code
def yX8_part : MethodName := ⟨RX8, "part", "(II)I"⟩
abbrev cX8_gap : ByteArray := prog_1_method_7_code
def yX8_gap : MethodName := ⟨RX8, "gap", "(I)I"⟩
abbrev cX8_closes : ByteArray := prog_1_method_8_code
def yX8_closes : MethodName := ⟨RX8, "closes", "()I"⟩
abbrev cX8_change : ByteArray := prog_1_method_9_code
def yX8_change : MethodName := ⟨RX8, "change", "(II)I"⟩
abbrev cX8_alter : ByteArray := prog_1_method_10_code
def yX8_alter : MethodName := ⟨RX8, "alter", "(II)I"⟩
abbrev cX8_undo : ByteArray := prog_1_method_11_code
def yX8_undo : MethodName := ⟨RX8, "undo", "()I"⟩
abbrev cX8_order : ByteArray := prog_1_method_12_code
def yX8_order : MethodName := ⟨RX8, "order", "(I)I"⟩
abbrev cX8_bribes : ByteArray := prog_1_method_13_code
def yX8_bribes : MethodName := ⟨RX8, "bribes", "(I)I"⟩
abbrev cX8_closed : ByteArray := prog_1_method_14_code
def yX8_closed : MethodName := ⟨RX8, "closed", "(I)I"⟩
abbrev cX8_seen : ByteArray := prog_1_method_15_code
def yX8_seen : MethodName := ⟨RX8, "seen", "(III)I"⟩
abbrev cX8_forget : ByteArray := prog_1_method_16_code
def yX8_forget : MethodName := ⟨RX8, "forget", "()I"⟩
abbrev cX8_inch : ByteArray := prog_1_method_17_code
def yX8_inch : MethodName := ⟨RX8, "inch", "(II)I"⟩
abbrev cX8_added : ByteArray := prog_1_method_18_code
def yX8_added : MethodName := ⟨RX8, "added", "(II)I"⟩
abbrev cX8_bolts : ByteArray := prog_1_method_19_code
def yX8_bolts : MethodName := ⟨RX8, "bolts", "(I)I"⟩
abbrev cX8_coat : ByteArray := prog_1_method_20_code
def yX8_coat : MethodName := ⟨RX8, "coat", "(I)I"⟩
abbrev cX8_pin : ByteArray := prog_1_method_21_code
def yX8_pin : MethodName := ⟨RX8, "pin", "(I)I"⟩
abbrev cX8_noPins : ByteArray := prog_1_method_22_code
def yX8_noPins : MethodName := ⟨RX8, "noPins", "()I"⟩
abbrev cX8_thumb : ByteArray := prog_1_method_23_code
def yX8_thumb : MethodName := ⟨RX8, "thumb", "(I)I"⟩
abbrev cX8_year : ByteArray := prog_1_method_24_code
def yX8_year : MethodName := ⟨RX8, "year", "(III)I"⟩
abbrev cX8_keep : ByteArray := prog_1_method_25_code
def yX8_keep : MethodName := ⟨RX8, "keep", "()I"⟩
abbrev cX8_back : ByteArray := prog_1_method_26_code
def yX8_back : MethodName := ⟨RX8, "back", "()I"⟩
abbrev cX8_count : ByteArray := prog_1_method_27_code
def yX8_count : MethodName := ⟨RX8, "count", "(I)I"⟩
abbrev cX8_isLength : ByteArray := prog_1_method_28_code
def yX8_isLength : MethodName := ⟨RX8, "isLength", "(I)Z"⟩
abbrev cX8_slipNow : ByteArray := prog_1_method_29_code
def yX8_slipNow : MethodName := ⟨RX8, "slipNow", "(I)I"⟩
abbrev cX8_lengthNow : ByteArray := prog_1_method_30_code
def yX8_lengthNow : MethodName := ⟨RX8, "lengthNow", "(I)I"⟩
abbrev cX8_measureNow : ByteArray := prog_1_method_31_code
def yX8_measureNow : MethodName := ⟨RX8, "measureNow", "()V"⟩
abbrev cX8_cutByBoy : ByteArray := prog_1_method_32_code
def yX8_cutByBoy : MethodName := ⟨RX8, "cutByBoy", "(I)V"⟩
abbrev cX8_isClosedByBribing : ByteArray := prog_1_method_33_code
def yX8_isClosedByBribing : MethodName := ⟨RX8, "isClosedByBribing", "(I)Z"⟩
abbrev cX8_levelSeams : ByteArray := prog_1_method_34_code
def yX8_levelSeams : MethodName := ⟨RX8, "levelSeams", "()V"⟩
def RX9 : String := "SuitByTailorsModel"
def TX9 : u_T := fun k => match k with
  | 0 => ("SuitByTailorsModel", "length", "I", false)
  | 1 => ("SuitByTailorsModel", "text", "[B", true)
  | 2 => ("SuitByTailorsModel", "at", "I", false)
  | 3 => ("SuitByTailorsModel", "told", "[I", true)
  | 4 => ("SuitByTailorsModel", "tailors", "[I", true)
  | 5 => ("SuitByTailorsModel", "inches", "[I", true)
  | 6 => ("SuitByTailorsModel", "parts", "[I", true)
  | 7 => ("SuitByTailorsModel", "part", "[I", true)
  | 8 => ("SuitByTailorsModel", "seams", "[I", true)
  | 9 => ("SuitByTailorsModel", "seam", "[I", true)
  | 10 => ("SuitByTailorsModel", "slot", "[I", true)
  | 11 => ("SuitByTailorsModel", "kept", "I", false)
  | 12 => ("SuitByTailorsModel", "done", "I", false)
  | 13 => ("SuitByTailorsModel", "seens", "I", false)
  | 14 => ("SuitByTailorsModel", "saw", "[I", true)
  | 15 => ("SuitByTailorsModel", "pins", "I", false)
  | 16 => ("SuitByTailorsModel", "pinned", "[I", true)
  | 17 => ("SuitByTailorsModel", "row", "[I", true)
  | 18 => ("SuitByTailorsModel", "best", "[I", true)
  | 19 => ("SuitByTailorsModel", "cut", "[I", true)
  | 20 => ("SuitByTailorsModel", "sums", "[I", true)
  | 21 => ("SuitByTailorsModel", "least", "[I", true)
  | _ => ("SuitByTailorsModel", "got", "[I", true)
def tyX9 : Nat → FieldType := fun k => match k with
  | 0 => .int
  | 1 => .array .byte
  | 2 => .int
  | 3 => .array .int
  | 4 => .array .int
  | 5 => .array .int
  | 6 => .array .int
  | 7 => .array .int
  | 8 => .array .int
  | 9 => .array .int
  | 10 => .array .int
  | 11 => .int
  | 12 => .int
  | 13 => .int
  | 14 => .array .int
  | 15 => .int
  | 16 => .array .int
  | 17 => .array .int
  | 18 => .array .int
  | 19 => .array .int
  | 20 => .array .int
  | 21 => .array .int
  | _ => .array .int
abbrev wsX90 : List Cond := u_ws RX9 TX9 23
theorem nmX9 : ∀ a, a < 23 → ∀ b, b < 23 → a ≠ b → (TX9 a).2.1 ≠ (TX9 b).2.1 := by decide +kernel
theorem tyX9_ok : ∀ k, k < 23 → parseFieldDescriptor (TX9 k).2.2.1 = some (tyX9 k) := by decide +kernel
abbrev cX9_init : ByteArray := prog_11_method_1_code
def yX9_init : MethodName := ⟨RX9, "<init>", "()V"⟩
abbrev cX9_in : ByteArray := prog_11_method_2_code
def yX9_in : MethodName := ⟨RX9, "in", "(JJJ)Z"⟩
abbrev cX9_write : ByteArray := prog_11_method_3_code
def yX9_write : MethodName := ⟨RX9, "write", "(IJ)I"⟩
abbrev cX9_wipe : ByteArray := prog_11_method_4_code
def yX9_wipe : MethodName := ⟨RX9, "wipe", "()I"⟩
abbrev cX9_number : ByteArray := prog_11_method_5_code
def yX9_number : MethodName := ⟨RX9, "number", "()I"⟩
abbrev cX9_numbers : ByteArray := prog_11_method_6_code
def yX9_numbers : MethodName := ⟨RX9, "numbers", "(I)I"⟩
abbrev cX9_isItem : ByteArray := prog_11_method_7_code
def yX9_isItem : MethodName := ⟨RX9, "isItem", "()Z"⟩
abbrev cX9_isGood : ByteArray := prog_11_method_8_code
def yX9_isGood : MethodName := ⟨RX9, "isGood", "(I)Z"⟩
abbrev cX9_begins : ByteArray := prog_11_method_9_code
def yX9_begins : MethodName := ⟨RX9, "begins", "()V"⟩
abbrev cX9_takes : ByteArray := prog_11_method_10_code
def yX9_takes : MethodName := ⟨RX9, "takes", "()V"⟩
abbrev cX9_fault : ByteArray := prog_11_method_11_code
def yX9_fault : MethodName := ⟨RX9, "fault", "()I"⟩
abbrev cX9_lay : ByteArray := prog_11_method_12_code
def yX9_lay : MethodName := ⟨RX9, "lay", "()I"⟩
abbrev cX9_isPart : ByteArray := prog_11_method_13_code
def yX9_isPart : MethodName := ⟨RX9, "isPart", "(I)Z"⟩
abbrev cX9_isTailor : ByteArray := prog_11_method_14_code
def yX9_isTailor : MethodName := ⟨RX9, "isTailor", "(I)Z"⟩
abbrev cX9_slip : ByteArray := prog_11_method_15_code
def yX9_slip : MethodName := ⟨RX9, "slip", "(III)I"⟩
abbrev cX9_cutOf : ByteArray := prog_11_method_16_code
def yX9_cutOf : MethodName := ⟨RX9, "cutOf", "(II)I"⟩
abbrev cX9_placeOf : ByteArray := prog_11_method_17_code
def yX9_placeOf : MethodName := ⟨RX9, "placeOf", "(I)I"⟩
abbrev cX9_slipNow : ByteArray := prog_11_method_18_code
def yX9_slipNow : MethodName := ⟨RX9, "slipNow", "(I)I"⟩
abbrev cX9_lengths : ByteArray := prog_11_method_19_code
def yX9_lengths : MethodName := ⟨RX9, "lengths", "()V"⟩
abbrev cX9_gapOf : ByteArray := prog_11_method_20_code
def yX9_gapOf : MethodName := ⟨RX9, "gapOf", "(I)I"⟩
abbrev cX9_gaps : ByteArray := prog_11_method_21_code
def yX9_gaps : MethodName := ⟨RX9, "gaps", "()I"⟩
abbrev cX9_isClosed : ByteArray := prog_11_method_22_code
def yX9_isClosed : MethodName := ⟨RX9, "isClosed", "()Z"⟩
abbrev cX9_part : ByteArray := prog_11_method_23_code
def yX9_part : MethodName := ⟨RX9, "part", "(II)I"⟩
abbrev cX9_gap : ByteArray := prog_11_method_24_code
def yX9_gap : MethodName := ⟨RX9, "gap", "(I)I"⟩
abbrev cX9_closes : ByteArray := prog_11_method_25_code
def yX9_closes : MethodName := ⟨RX9, "closes", "()I"⟩
abbrev cX9_copies : ByteArray := prog_11_method_26_code
def yX9_copies : MethodName := ⟨RX9, "copies", "(II)V"⟩
abbrev cX9_known : ByteArray := prog_11_method_27_code
def yX9_known : MethodName := ⟨RX9, "known", "()V"⟩
abbrev cX9_change : ByteArray := prog_11_method_28_code
def yX9_change : MethodName := ⟨RX9, "change", "(II)I"⟩
abbrev cX9_alter : ByteArray := prog_11_method_29_code
def yX9_alter : MethodName := ⟨RX9, "alter", "(II)I"⟩
abbrev cX9_undo : ByteArray := prog_11_method_30_code
def yX9_undo : MethodName := ⟨RX9, "undo", "()I"⟩
abbrev cX9_nextOrder : ByteArray := prog_11_method_31_code
def yX9_nextOrder : MethodName := ⟨RX9, "nextOrder", "()Z"⟩
abbrev cX9_order : ByteArray := prog_11_method_32_code
def yX9_order : MethodName := ⟨RX9, "order", "(I)I"⟩
abbrev cX9_bribes : ByteArray := prog_11_method_33_code
def yX9_bribes : MethodName := ⟨RX9, "bribes", "(I)I"⟩
abbrev cX9_closed : ByteArray := prog_11_method_34_code
def yX9_closed : MethodName := ⟨RX9, "closed", "(I)I"⟩
abbrev cX9_seen : ByteArray := prog_11_method_35_code
def yX9_seen : MethodName := ⟨RX9, "seen", "(III)I"⟩
abbrev cX9_forget : ByteArray := prog_11_method_36_code
def yX9_forget : MethodName := ⟨RX9, "forget", "()I"⟩
abbrev cX9_inch : ByteArray := prog_11_method_37_code
def yX9_inch : MethodName := ⟨RX9, "inch", "(II)I"⟩
abbrev cX9_added : ByteArray := prog_11_method_38_code
def yX9_added : MethodName := ⟨RX9, "added", "(II)I"⟩
abbrev cX9_nextBolts : ByteArray := prog_11_method_39_code
def yX9_nextBolts : MethodName := ⟨RX9, "nextBolts", "()Z"⟩
abbrev cX9_many : ByteArray := prog_11_method_40_code
def yX9_many : MethodName := ⟨RX9, "many", "()I"⟩
abbrev cX9_bolts : ByteArray := prog_11_method_41_code
def yX9_bolts : MethodName := ⟨RX9, "bolts", "(I)I"⟩
abbrev cX9_coat : ByteArray := prog_11_method_42_code
def yX9_coat : MethodName := ⟨RX9, "coat", "(I)I"⟩
abbrev cX9_tailorOf : ByteArray := prog_11_method_43_code
def yX9_tailorOf : MethodName := ⟨RX9, "tailorOf", "(II)I"⟩
abbrev cX9_pin : ByteArray := prog_11_method_44_code
def yX9_pin : MethodName := ⟨RX9, "pin", "(I)I"⟩
abbrev cX9_noPins : ByteArray := prog_11_method_45_code
def yX9_noPins : MethodName := ⟨RX9, "noPins", "()I"⟩
abbrev cX9_thumb : ByteArray := prog_11_method_46_code
def yX9_thumb : MethodName := ⟨RX9, "thumb", "(I)I"⟩
abbrev cX9_year : ByteArray := prog_11_method_47_code
def yX9_year : MethodName := ⟨RX9, "year", "(III)I"⟩
abbrev cX9_keep : ByteArray := prog_11_method_48_code
def yX9_keep : MethodName := ⟨RX9, "keep", "()I"⟩
abbrev cX9_back : ByteArray := prog_11_method_49_code
def yX9_back : MethodName := ⟨RX9, "back", "()I"⟩
abbrev cX9_count : ByteArray := prog_11_method_50_code
def yX9_count : MethodName := ⟨RX9, "count", "(I)I"⟩
def RL : String := "SuitByTailorsLaw"
abbrev cL_law : ByteArray := code
def yL_law : MethodName := ⟨RL, "law", "([I)Z"⟩
abbrev vwCl : List vw_C := [(RX0, TX0, 3), (RX1, TX1, 2), (RX2, TX2, 5), (RX3, TX3, 6), (RX4, TX4, 3), (RX5, TX5, 12), (RX6, TX6, 4), (RX7, TX7, 3), (RX8, TX8, 14), (RX9, TX9, 23)]
/-! one list of words for all methods -/
def wG : List Cond := lw_tbl.filter goodWord
theorem wG_of {w : Cond} (h : w ∈ lw_tbl) (g : goodWord w = true) : w ∈ wG := List.mem_filter.mpr ⟨h, g⟩
theorem wG_in {w : Cond} (h : w ∈ wG) : w ∈ lw_tbl := (List.mem_filter.mp h).1
theorem wG_good {w : Cond} (h : w ∈ wG) : (w.onTables && w.keeps) = true ∨ ∃ ty, w = .arrayClass ty := good_of_word (List.mem_filter.mp h).2
theorem z_gV {Ts : List Cond} (hT : ∀ w ∈ wG, w ∈ Ts) {own C : String} {idx n : Nat} {y : MethodName} {cc : ByteArray} {r : Option FieldType} (h1 : Cond.methodLink own idx y ∈ wG) (h2 : Cond.instanceMethod y ∈ wG) (h3 : Cond.selects C y y ∈ wG) (h4 : Cond.initialized C ∈ wG) (h5 : Cond.code y cc n r ∈ wG) : GoodIn Ts (wsV own idx C y (Cond.code y cc n r :: wG)) := by
  intro w hw
  have hw2 : w ∈ wG := by
    rcases List.mem_append.mp hw with h | h
    · rcases List.mem_cons.mp h with h | h
      · rw [h]; exact h1
      rcases List.mem_cons.mp h with h | h
      · rw [h]; exact h2
      rcases List.mem_cons.mp h with h | h
      · rw [h]; exact h3
      rcases List.mem_cons.mp h with h | h
      · rw [h]; exact h4
      exact absurd h List.not_mem_nil
    · rcases List.mem_cons.mp h with h | h
      · rw [h]; exact h5
      · exact h
  exact ⟨hT w hw2, wG_good hw2⟩
theorem z_gS {Ts : List Cond} (hT : ∀ w ∈ wG, w ∈ Ts) {own : String} {idx n : Nat} {y : MethodName} {cc : ByteArray} {r : Option FieldType} (h1 : Cond.methodLink own idx y ∈ wG) (h2 : Cond.static y ∈ wG) (h4 : Cond.initialized y.cls ∈ wG) (h5 : Cond.code y cc n r ∈ wG) : GoodIn Ts (va_wsS own idx y (Cond.code y cc n r :: wG)) := by
  intro w hw
  have hw2 : w ∈ wG := by
    rcases List.mem_append.mp hw with h | h
    · rcases List.mem_cons.mp h with h | h
      · rw [h]; exact h1
      rcases List.mem_cons.mp h with h | h
      · rw [h]; exact h2
      rcases List.mem_cons.mp h with h | h
      · rw [h]; exact h4
      exact absurd h List.not_mem_nil
    · rcases List.mem_cons.mp h with h | h
      · rw [h]; exact h5
      · exact h
  exact ⟨hT w hw2, wG_good hw2⟩
theorem z_gI {Ts : List Cond} (hT : ∀ w ∈ wG, w ∈ Ts) {n : Nat} {y : MethodName} {cc : ByteArray} {r : Option FieldType} (h5 : Cond.code y cc n r ∈ wG) : GoodIn Ts (Cond.code y cc n r :: wG) := by
  intro w hw
  have hw2 : w ∈ wG := by
    rcases List.mem_cons.mp hw with h | h
    · rw [h]; exact h5
    · exact h
  exact ⟨hT w hw2, wG_good hw2⟩
end
section
/-! what an object with all that it holds contains: its place (a field, in the order of the slots, deep), then an index; a plain number stands at index 0 -/
abbrev zMm : Type := Nat → Nat → Int32
def zs (X : zMm) (j : Nat) (g : Nat → Int32) : zMm := fun i => cond (Nat.beq i j) g (X i)
def zp (X : zMm) (b n : Nat) (P : zMm) : zMm := fun i => cond (Nat.ble b i && Nat.blt i (b + n)) (P (i - b)) (X i)
/-! programs as functions: none where the machine would throw -/
def zl {α : Type} (n : Nat) (f : Nat → Int32) (i : Int32) (k : Int32 → Option α) : Option α := if i < 0 ∨ n ≤ i.toNatClampNeg then none else k (f i.toNatClampNeg)
def zw {α : Type} (n : Nat) (X : zMm) (j : Nat) (i v : Int32) (k : zMm → Option α) : Option α := if i < 0 ∨ n ≤ i.toNatClampNeg then none else k (zs X j (upd (X j) i.toNatClampNeg v))
def zv {β α : Type} (x : β) (k : β → Option α) : Option α := k x
def zd {α : Type} (y : Int32) (k : Option α) : Option α := if y = 0 then none else k
def zdL {α : Type} (y : Int64) (k : Option α) : Option α := if y = 0 then none else k
def zo (v : Int32) {α : Type} (k : Option α) : Option α := if v &&& 1 = v then k else none
def zb1 {α β : Type} (o : Option β) (k : β → Option α) : Option α := match o with
  | none => none
  | some a => k a
def zb2 {α β γ : Type} (o : Option (β × γ)) (k : β → γ → Option α) : Option α := match o with
  | none => none
  | some (a, b) => k a b
def zb3 {α β γ δ : Type} (o : Option (β × γ × δ)) (k : β → γ → δ → Option α) : Option α := match o with
  | none => none
  | some (a, b, c) => k a b c
def zb4 {α β γ δ ε : Type} (o : Option (β × γ × δ × ε)) (k : β → γ → δ → ε → Option α) : Option α := match o with
  | none => none
  | some (a, b, c, d) => k a b c d
def zb5 {α β γ δ ε ζ : Type} (o : Option (β × γ × δ × ε × ζ)) (k : β → γ → δ → ε → ζ → Option α) : Option α := match o with
  | none => none
  | some (a, b, c, d, e) => k a b c d e
theorem zl_some {α : Type} {n : Nat} {f : Nat → Int32} {i : Int32} {k : Int32 → Option α} {r : α} (h : zl n f i k = some r) : vp_in i n ∧ ∃ v, v = f i.toNatClampNeg ∧ k v = some r := by
  unfold zl at h
  split at h
  · cases h
  · next q => exact ⟨q, _, rfl, h⟩
theorem zw_some {α : Type} {n : Nat} {X : zMm} {j : Nat} {i v : Int32} {k : zMm → Option α} {r : α} (h : zw n X j i v k = some r) : vp_in i n ∧ ∃ Y, Y = zs X j (upd (X j) i.toNatClampNeg v) ∧ k Y = some r := by
  unfold zw at h
  split at h
  · cases h
  · next q => exact ⟨q, _, rfl, h⟩
theorem zv_some {β α : Type} {x : β} {k : β → Option α} {r : α} (h : zv x k = some r) : ∃ y, y = x ∧ k y = some r := ⟨x, rfl, h⟩
theorem zd_some {α : Type} {y : Int32} {k : Option α} {r : α} (h : zd y k = some r) : ¬ y = 0 ∧ k = some r := by
  unfold zd at h
  split at h
  · cases h
  · next q => exact ⟨q, h⟩
theorem zdL_some {α : Type} {y : Int64} {k : Option α} {r : α} (h : zdL y k = some r) : ¬ y = 0 ∧ k = some r := by
  unfold zdL at h
  split at h
  · cases h
  · next q => exact ⟨q, h⟩
theorem zo_some {v : Int32} {α : Type} {k : Option α} {r : α} (h : zo v k = some r) : narrow .boolean (.int v) = .int v ∧ k = some r := by
  unfold zo at h
  split at h
  · next q => exact ⟨by show Value.int (v &&& 1) = _; rw [q], h⟩
  · cases h
theorem zb1_some {α β : Type} {o : Option β} {k : β → Option α} {r : α} (h : zb1 o k = some r) : ∃ a, o = some a ∧ k a = some r := by
  cases o with
  | none => cases h
  | some a => exact ⟨a, rfl, h⟩
theorem zb2_some {α β γ : Type} {o : Option (β × γ)} {k : β → γ → Option α} {r : α} (h : zb2 o k = some r) : ∃ a b, o = some (a, b) ∧ k a b = some r := by
  cases o with
  | none => cases h
  | some a => exact ⟨a.1, a.2, rfl, h⟩
theorem zb3_some {α β γ δ : Type} {o : Option (β × γ × δ)} {k : β → γ → δ → Option α} {r : α} (h : zb3 o k = some r) : ∃ a b c, o = some (a, b, c) ∧ k a b c = some r := by
  cases o with
  | none => cases h
  | some a => exact ⟨a.1, a.2.1, a.2.2, rfl, h⟩
theorem zb4_some {α β γ δ ε : Type} {o : Option (β × γ × δ × ε)} {k : β → γ → δ → ε → Option α} {r : α} (h : zb4 o k = some r) : ∃ a b c d, o = some (a, b, c, d) ∧ k a b c d = some r := by
  cases o with
  | none => cases h
  | some a => exact ⟨a.1, a.2.1, a.2.2.1, a.2.2.2, rfl, h⟩
theorem zb5_some {α β γ δ ε ζ : Type} {o : Option (β × γ × δ × ε × ζ)} {k : β → γ → δ → ε → ζ → Option α} {r : α} (h : zb5 o k = some r) : ∃ a b c d e, o = some (a, b, c, d, e) ∧ k a b c d e = some r := by
  cases o with
  | none => cases h
  | some a => exact ⟨a.1, a.2.1, a.2.2.1, a.2.2.2.1, a.2.2.2.2, rfl, h⟩
theorem zit {α : Type} {c : Prop} {_i : Decidable c} {a b : Option α} {r : α} (h : c) (hf : (if c then a else b) = some r) : a = some r := by
  rw [if_pos h] at hf
  exact hf
theorem zif {α : Type} {c : Prop} {_i : Decidable c} {a b : Option α} {r : α} (h : ¬ c) (hf : (if c then a else b) = some r) : b = some r := by
  rw [if_neg h] at hf
  exact hf
theorem zsw_out {x : Int32} {lo hi : Nat} (hb : hi < 2 ^ 31) (h : ∀ k, lo ≤ k → k ≤ hi → ¬ x = nI k) : x.toInt < (lo : Int) ∨ (hi : Int) < x.toInt := by
  rcases Int.lt_or_le x.toInt lo with q | q
  · exact Or.inl q
  · rcases Int.lt_or_le (hi : Int) x.toInt with q2 | q2
    · exact Or.inr q2
    · exfalso
      obtain ⟨k, hk⟩ := Int.eq_ofNat_of_zero_le (show 0 ≤ x.toInt by omega)
      refine h k (by omega) (by omega) ?_
      have h2 : (nI k).toInt = (k : Int) := nI_toInt (by omega)
      exact Int32.toInt_inj.mp (by rw [h2, hk])
/-! a method's contract: with the cells ws at its start it answers r and leaves the cells w1 -/
def zPc (D : va_G) (cI cB : ClassId) (av : List Value) (ws : va_W) (sz : Nat) : Array Value → State → Prop := va_Pc av (fun U => U.heap.size = sz ∧ va_P D vwCl ws U.heap ∧ va_K D vwCl [(cI, .int), (cB, .byte)] U ∧ va_D (fun _ => True) ws)
def zQi (D : va_G) (cI cB : ClassId) (r : Int32) (w1 : va_W) (A : Nat → Prop) : Array Value → State → Outcome → State → Prop := va_Qi (fun (r2 : Int32) (_ : Unit) => r2 = r) (fun _ t => va_P D vwCl w1 t.heap ∧ va_K D vwCl [(cI, .int), (cB, .byte)] t ∧ va_D A w1) A
def zQv (D : va_G) (cI cB : ClassId) (w1 : va_W) (A : Nat → Prop) : Array Value → State → Outcome → State → Prop := va_Qv (fun (_ : Unit) => True) (fun _ t => va_P D vwCl w1 t.heap ∧ va_K D vwCl [(cI, .int), (cB, .byte)] t ∧ va_D A w1) A
def zMi (l : Launch) (y : MethodName) (wy : List Cond) (rm : Room) (D : va_G) (cI cB : ClassId) (av : List Value) (ws : va_W) (r : Int32) (w1 : va_W) : Prop := ∀ sz : Nat, Met l y wy rm (zPc D cI cB av ws sz) (zQi D cI cB r w1 (va_A ws sz)) 0 0 (va_A ws sz)
def zMv (l : Launch) (y : MethodName) (wy : List Cond) (rm : Room) (D : va_G) (cI cB : ClassId) (av : List Value) (ws w1 : va_W) : Prop := ∀ sz : Nat, Met l y wy rm (zPc D cI cB av ws sz) (zQv D cI cB w1 (va_A ws sz)) 0 0 (va_A ws sz)
theorem zPc_blind {D : va_G} {cI cB : ClassId} {av : List Value} {ws : va_W} {sz : Nat} : FrameBlind (zPc D cI cB av ws sz) := by
  intro a U g mk q
  obtain ⟨q0, q1, qP, qK, qD⟩ := q
  exact ⟨q0, q1, qP, va_K.moved (u := U) (U := U.calling g mk a) (Vm.Alike.refl U.vm) qK, qD⟩
theorem zofI {l : Launch} {y : MethodName} {wy wy2 : List Cond} {rm : Room} {D : va_G} {cI cB : ClassId} {av : List Value} {ws w1 : va_W} {r : Int32} {cc : ByteArray} {maxL : Nat} {ret : Option FieldType} (hy : plainName y.cls = true) (hw : wy = Cond.code y cc maxL ret :: wy2) (hlen : (lg_sl av).length ≤ maxL)
    (body : ∀ (p : Program) (e : Env) (s : State) (m : MethodId) (below : List Frame) (meth : Method) (c : Code) (A : Nat → Prop) (ls : Array Slot), p.tables.exec = Jvm.exec → c.code = cc → c.maxLocals = maxL → meth.sig.returnType = ret → s.vm.findClass y.cls = some m.cls → (∀ w ∈ wy, w.before av.toArray s = true) → meth.locks = false → va_K D vwCl [(cI, .int), (cB, .byte)] s → va_P D vwCl ws s.heap → va_D A ws → va_S A s.heap s.heap [] → (∀ q : Nat, s.heap.size ≤ q → A q) → lv_has ls maxL (lv_args 0 av) → W p l e rm s m av.toArray below meth c s.heap [] 0 0 (MQ below (zQi D cI cB r w1 A) av.toArray s 0 0 A) (F0 m 0 ls [])) : zMi l y wy rm D cI cB av ws r w1 := by
  intro sz
  refine Met.ofW (cc := cc) (maxL := maxL) (ret := ret) hy hw ?_
  intro p e s m args below meth c s₁ B hml hv
  obtain ⟨rfl, hsz, hP, hK, hD0⟩ := hv
  have hts := atoms_spec (ws := wy) B.pre
  subst hsz
  have hD := hD0.self (sz := s.heap.size)
  have hl := lv_entry av (n := maxL) hlen
  rw [lg_entry_eq]
  exact body p e s m below meth c (va_A ws s.heap.size) _ B.exec B.bytes hml B.returns (findClass_of_methodNamed B.named) hts B.notSynchronized hK hP hD va_S.rf (fun q h => Or.inr h) hl
theorem zofV {l : Launch} {y : MethodName} {wy wy2 : List Cond} {rm : Room} {D : va_G} {cI cB : ClassId} {av : List Value} {ws w1 : va_W} {cc : ByteArray} {maxL : Nat} {ret : Option FieldType} (hy : plainName y.cls = true) (hw : wy = Cond.code y cc maxL ret :: wy2) (hlen : (lg_sl av).length ≤ maxL)
    (body : ∀ (p : Program) (e : Env) (s : State) (m : MethodId) (below : List Frame) (meth : Method) (c : Code) (A : Nat → Prop) (ls : Array Slot), p.tables.exec = Jvm.exec → c.code = cc → c.maxLocals = maxL → meth.sig.returnType = ret → s.vm.findClass y.cls = some m.cls → (∀ w ∈ wy, w.before av.toArray s = true) → meth.locks = false → va_K D vwCl [(cI, .int), (cB, .byte)] s → va_P D vwCl ws s.heap → va_D A ws → va_S A s.heap s.heap [] → (∀ q : Nat, s.heap.size ≤ q → A q) → lv_has ls maxL (lv_args 0 av) → W p l e rm s m av.toArray below meth c s.heap [] 0 0 (MQ below (zQv D cI cB w1 A) av.toArray s 0 0 A) (F0 m 0 ls [])) : zMv l y wy rm D cI cB av ws w1 := by
  intro sz
  refine Met.ofW (cc := cc) (maxL := maxL) (ret := ret) hy hw ?_
  intro p e s m args below meth c s₁ B hml hv
  obtain ⟨rfl, hsz, hP, hK, hD0⟩ := hv
  have hts := atoms_spec (ws := wy) B.pre
  subst hsz
  have hD := hD0.self (sz := s.heap.size)
  have hl := lv_entry av (n := maxL) hlen
  rw [lg_entry_eq]
  exact body p e s m below meth c (va_A ws s.heap.size) _ B.exec B.bytes hml B.returns (findClass_of_methodNamed B.named) hts B.notSynchronized hK hP hD va_S.rf (fun q h => Or.inr h) hl
/-- a place of a method's walk: whoever has the cells and the locals there comes to the end -/
def zAt (p : Program) (l : Launch) (e : Env) (R : Room) (s : State) (m : MethodId) (args : Array Value) (below : List Frame) (meth : Method) (c : Code) (Q : State → Prop) (A : Nat → Prop) (D : va_G) (nL : Nat) (ws : va_W) (lv : List (Nat × Value)) (pc : Nat) (st : List Value) : Prop := ∀ (H : Heap) (locs : List Loc) (ls : Array Slot), va_P D vwCl ws H → va_D A ws → va_S A s.heap H locs → lv_has ls nL lv → W p l e R s m args below meth c H locs 0 0 Q (F0 m pc ls st)
theorem z_fm {α : Type} {w : List α} : ∀ {is : List Nat} {w2 : List α}, is.map (fun i => w[i]?) = w2.map some → is.filterMap (fun i => w[i]?) = w2
  | [], [], _ => rfl
  | [], _ :: _, h => by cases h
  | _ :: _, [], h => by cases h
  | i :: is, a :: w2, h => by
    simp only [List.map_cons, List.cons.injEq] at h
    rw [List.filterMap_cons, h.1]
    simp only [z_fm (w2 := w2) h.2]
section ZR
variable {p : Program} {l : Launch} {e : Env} {R : Room} {s : State} {m : MethodId} {args : Array Value} {below : List Frame} {meth : Method} {c : Code} {H : Heap} {locs : List Loc} {cells slots : Nat} {Q : State → Prop}
variable {pc : Nat} {ls : Array Slot} {rest : List Value} {A : Nat → Prop} {D : va_G} {cI cB : ClassId} {w1 : va_W} {cc : ByteArray}
theorem zt {x y : Int32} (h : y = x) (k : W p l e R s m args below meth c H locs cells slots Q (F0 m pc ls (.int y :: rest))) : W p l e R s m args below meth c H locs cells slots Q (F0 m pc ls (.int x :: rest)) := h ▸ k
theorem ztL {x y : Int64} (h : y = x) (k : W p l e R s m args below meth c H locs cells slots Q (F0 m pc ls (.long y :: rest))) : W p l e R s m args below meth c H locs cells slots Q (F0 m pc ls (.long x :: rest)) := h ▸ k
theorem zretI {r : Int32} (hx : p.tables.exec = Jvm.exec) (hb : c.code = cc) (hr : meth.sig.returnType = some .int) (hlocks : meth.locks = false) (hK : va_K D vwCl [(cI, .int), (cB, .byte)] s) (hP : va_P D vwCl w1 H) (hD : va_D A w1) (hS : va_S A s.heap H locs) (hdg : decode cc pc = .ok (.ireturn, 1)) : W p l e R s m args below meth c H locs 0 0 (MQ below (zQi D cI cB r w1 A) args s 0 0 A) (F0 m pc ls [.int r]) :=
  W.iret hx hb hr (fun t ht hW => ⟨⟨r, (), rfl, rfl, by rw [ht]; exact hP, va_K.moved hW.alike hK, hD⟩, hS.F ht⟩) hS.2.2 hdg
theorem zretB {r : Int32} (hx : p.tables.exec = Jvm.exec) (hb : c.code = cc) (hr : meth.sig.returnType = some .boolean) (hlocks : meth.locks = false) (hn : narrow .boolean (.int r) = .int r) (hK : va_K D vwCl [(cI, .int), (cB, .byte)] s) (hP : va_P D vwCl w1 H) (hD : va_D A w1) (hS : va_S A s.heap H locs) (hdg : decode cc pc = .ok (.ireturn, 1)) : W p l e R s m args below meth c H locs 0 0 (MQ below (zQi D cI cB r w1 A) args s 0 0 A) (F0 m pc ls [.int r]) :=
  W.zret hx hb hr hn (fun t ht hW => ⟨⟨r, (), rfl, rfl, by rw [ht]; exact hP, va_K.moved hW.alike hK, hD⟩, hS.F ht⟩) hS.2.2 hdg
theorem zretV (hx : p.tables.exec = Jvm.exec) (hb : c.code = cc) (hr : meth.sig.returnType = none) (hlocks : meth.locks = false) (hK : va_K D vwCl [(cI, .int), (cB, .byte)] s) (hP : va_P D vwCl w1 H) (hD : va_D A w1) (hS : va_S A s.heap H locs) (hdg : decode cc pc = .ok (.return_, 1)) : W p l e R s m args below meth c H locs 0 0 (MQ below (zQv D cI cB w1 A) args s 0 0 A) (F0 m pc ls []) :=
  W.vret hx hb hr (fun t ht hW => ⟨⟨(), rfl, trivial, by rw [ht]; exact hP, va_K.moved hW.alike hK, hD⟩, hS.F ht⟩) hS.2.2 hdg
variable {H0 : Heap} {ws wc ws2 : va_W} {y : MethodName} {bytes : ByteArray} {maxL nL n index ci : Nat} {ret : Option FieldType} {wy Ts : List Cond} {rm : Room} {own C : String} {b : Addr} {As : List Value} {r : Int32} {q0 : vw_C} {fs : List Value}
/-- the caller's cells behind a call: those of the callee at their places, the others as they were -/
theorem z_join {H1 : Heap} (hP : va_P D vwCl ws H) (hD : va_D A ws) (hS : va_S A H0 H locs) (hA : ∀ q : Nat, H0.size ≤ q → A q) (isC isR : List Nat) (hC : isC.map (fun i => ws[i]?) = wc.map some) (h2C : isC.map (fun i => ws2[i]?) = w1.map some) (h2R : isR.map (fun i => ws2[i]?) = isR.map (fun i => ws[i]?)) (hdis : isR.all (fun i => !(isC.contains i)) = true) (hcov : (List.range ws2.length).all (fun i => isC.contains i || isR.contains i) = true)
    (hk : ∀ q : Nat, q < H.size → ¬ va_A wc H.size q → H1[q]? = H[q]?) (hP1 : va_P D vwCl w1 H1) (hD1 : va_D (va_A wc H.size) w1) : va_P D vwCl ws2 H1 ∧ va_D A ws2 := by
  have hFc := va_free (wc := wc) hD hS hA isC hC
  have hdis2 : ∀ i ∈ isR, i ∉ isC := by
    intro i hi hc
    have h1 := List.all_eq_true.mp hdis i hi
    simp [hc] at h1
  have at' : ∀ {wx w : va_W}, isC.map (fun i => wx[i]?) = w.map some → ∀ (k : Nat) (q : Nat × va_E), w[k]? = some q → ∃ i, isC[k]? = some i ∧ wx[i]? = some q := by
    intro wx w hs k q hq
    have h1 : (isC.map (fun i => wx[i]?))[k]? = some (some q) := by rw [hs, List.getElem?_map, hq]; rfl
    rw [List.getElem?_map] at h1
    cases hi : isC[k]? with
    | none => rw [hi] at h1; cases h1
    | some i => rw [hi] at h1; exact ⟨i, rfl, Option.some.inj h1⟩
  have atC : ∀ (k : Nat) (q : Nat × va_E), k ∈ isC → ws2[k]? = some q → ∃ a : Nat, isC[a]? = some k ∧ w1[a]? = some q := by
    intro k q hk1 hq
    obtain ⟨a, ha⟩ := List.getElem?_of_mem hk1
    refine ⟨a, ha, ?_⟩
    have h1 : (isC.map (fun i => ws2[i]?))[a]? = some (some q) := by rw [List.getElem?_map, ha]; show some (ws2[k]?) = _; rw [hq]
    rw [h2C, List.getElem?_map] at h1
    cases hi : w1[a]? with
    | none => rw [hi] at h1; cases h1
    | some i => rw [hi] at h1; exact h1 |> fun h => by simpa using h
  have atR : ∀ k ∈ isR, ws2[k]? = ws[k]? := List.map_inj_left.mp h2R
  have apart : ∀ (k : Nat) (q : Nat × va_E), k ∈ isR → ws[k]? = some q → q.1 < H.size ∧ ¬ va_A wc H.size q.1 := by
    intro k q hkR hq
    have hl := (hP k q hq).lt
    refine ⟨hl, fun h => ?_⟩
    rcases h with ⟨k2, e, h⟩ | h
    · obtain ⟨j, h3, h4⟩ := at' hC k2 (q.1, e) h
      have hij := hD.1 k j q (q.1, e) hq h4 rfl
      subst hij
      exact hdis2 k hkR (List.mem_of_getElem? h3)
    · omega
  have cov : ∀ (k : Nat) (q : Nat × va_E), ws2[k]? = some q → k ∈ isC ∨ k ∈ isR := by
    intro k q hq
    have h1 := List.all_eq_true.mp hcov k (List.mem_range.mpr (List.getElem?_eq_some_iff.mp hq).1)
    simpa using h1
  refine ⟨fun k q hq => ?_, fun i j x y hi hj hxy => ?_, fun k q hq => ?_⟩
  · rcases cov k q hq with h | h
    · obtain ⟨a, -, h2⟩ := atC k q h hq
      exact hP1 a q h2
    · rw [atR k h] at hq
      obtain ⟨g1, g2⟩ := apart k q h hq
      exact (hP k q hq).kept (hk q.1 g1 g2)
  · rcases cov i x hi with h | h <;> rcases cov j y hj with h2 | h2
    · obtain ⟨a, e1, e2⟩ := atC i x h hi
      obtain ⟨b, e3, e4⟩ := atC j y h2 hj
      have := hD1.1 a b x y e2 e4 hxy
      subst this
      exact Option.some.inj (e1.symm.trans e3)
    · obtain ⟨a, e1, e2⟩ := atC i x h hi
      rw [atR j h2] at hj
      exact absurd (hD1.2 a x e2) (by rw [hxy]; exact (apart j y h2 hj).2)
    · obtain ⟨b, e3, e4⟩ := atC j y h2 hj
      rw [atR i h] at hi
      exact absurd (hD1.2 b y e4) (by rw [← hxy]; exact (apart i x h hi).2)
    · rw [atR i h] at hi
      rw [atR j h2] at hj
      exact hD.1 i j x y hi hj hxy
  · rcases cov k q hq with h | h
    · obtain ⟨a, -, h2⟩ := atC k q h hq
      exact hFc _ (hD1.2 a q h2)
    · rw [atR k h] at hq
      exact hD.2 k q hq
theorem zcallVi (S : CallFix p m c cc nL s args Ts own) (hM : zMi l y wy rm D cI cB (.ref b :: As) wc r w1) (cw : CallW R s args own C index y bytes maxL ret wy rm 0 0 n) (hK : va_K D vwCl [(cI, .int), (cB, .byte)] s) (hP : va_P D vwCl ws H) (hD : va_D A ws) (hS : va_S A H0 H locs) (hA : ∀ q : Nat, H0.size ≤ q → A q) (ci0 : Nat) (hrc : wc[0]? = some (b, .inr (ci0, fs))) (hcl : vwCl[ci0]? = some q0) (hq0 : q0.1 = C) (isC isR : List Nat) (hC : isC.map (fun i => ws[i]?) = wc.map some) (hnC : va_nd isC = true) (h2C : isC.map (fun i => ws2[i]?) = w1.map some) (h2R : isR.map (fun i => ws2[i]?) = isR.map (fun i => ws[i]?)) (hdis : isR.all (fun i => !(isC.contains i)) = true) (hcov : (List.range ws2.length).all (fun i => isC.contains i || isR.contains i) = true)
    (hAs : As.length = n) (hls : ls.size = nL) (hroom : (rest.map fun v => v.category).sum ≤ 8) (hdg : decode cc pc = .ok (.invokevirtual index, 3)) (hcs : cells ≤ R.cells ∧ slots ≤ R.slots) {st : List Value} (hst : st = As.reverse ++ .ref b :: rest)
    (kk : ∀ (H1 : Heap) (locs1 : List Loc), va_P D vwCl ws2 H1 → va_D A ws2 → va_S A H0 H1 locs1 → W p l e R s m args below meth c H1 locs1 cells slots Q (F0 m (pc + 3) ls (.int r :: rest))) : W p l e R s m args below meth c H locs cells slots Q (F0 m pc ls st) := by
  subst hst
  subst hq0
  have hPc := hP.sub isC (z_fm (w2 := wc) hC)
  have hDc := hD.sub isC hnC hC
  have hFc := va_free (wc := wc) hD hS hA isC hC
  refine va_calli (va_runV (As := As) (rest := rest) S (hM H.size) cw ⟨zPc_blind, va_recv hK hPc hcl hrc, fun U hU hW => ⟨rfl, by rw [hU], by rw [hU]; exact hPc, va_K.moved hW.alike hK, hDc.weaken (fun _ _ _ _ => trivial)⟩⟩ rfl hAs hls rfl (lv_room hroom) hdg hcs) hS (fun q _ h => hFc q h) hFc (fun r2 u t H1 locs2 ht hvm hw hB hz1 hk1 hS2 => ?_)
  obtain ⟨hP1, hK1, hD1⟩ := hB
  rw [ht] at hP1
  subst hw
  obtain ⟨a, b⟩ := z_join hP hD hS hA isC isR hC h2C h2R hdis hcov hk1 hP1 hD1
  exact kk H1 locs2 a b hS2
theorem zcallVv (S : CallFix p m c cc nL s args Ts own) (hM : zMv l y wy rm D cI cB (.ref b :: As) wc w1) (cw : CallW R s args own C index y bytes maxL ret wy rm 0 0 n) (hK : va_K D vwCl [(cI, .int), (cB, .byte)] s) (hP : va_P D vwCl ws H) (hD : va_D A ws) (hS : va_S A H0 H locs) (hA : ∀ q : Nat, H0.size ≤ q → A q) (ci0 : Nat) (hrc : wc[0]? = some (b, .inr (ci0, fs))) (hcl : vwCl[ci0]? = some q0) (hq0 : q0.1 = C) (isC isR : List Nat) (hC : isC.map (fun i => ws[i]?) = wc.map some) (hnC : va_nd isC = true) (h2C : isC.map (fun i => ws2[i]?) = w1.map some) (h2R : isR.map (fun i => ws2[i]?) = isR.map (fun i => ws[i]?)) (hdis : isR.all (fun i => !(isC.contains i)) = true) (hcov : (List.range ws2.length).all (fun i => isC.contains i || isR.contains i) = true)
    (hAs : As.length = n) (hls : ls.size = nL) (hroom : (rest.map fun v => v.category).sum ≤ 8) (hdg : decode cc pc = .ok (.invokevirtual index, 3)) (hcs : cells ≤ R.cells ∧ slots ≤ R.slots) {st : List Value} (hst : st = As.reverse ++ .ref b :: rest)
    (kk : ∀ (H1 : Heap) (locs1 : List Loc), va_P D vwCl ws2 H1 → va_D A ws2 → va_S A H0 H1 locs1 → W p l e R s m args below meth c H1 locs1 cells slots Q (F0 m (pc + 3) ls rest)) : W p l e R s m args below meth c H locs cells slots Q (F0 m pc ls st) := by
  subst hst
  subst hq0
  have hPc := hP.sub isC (z_fm (w2 := wc) hC)
  have hDc := hD.sub isC hnC hC
  have hFc := va_free (wc := wc) hD hS hA isC hC
  refine va_callv (va_runV (As := As) (rest := rest) S (hM H.size) cw ⟨zPc_blind, va_recv hK hPc hcl hrc, fun U hU hW => ⟨rfl, by rw [hU], by rw [hU]; exact hPc, va_K.moved hW.alike hK, hDc.weaken (fun _ _ _ _ => trivial)⟩⟩ rfl hAs hls rfl (lv_room hroom) hdg hcs) hS (fun q _ h => hFc q h) hFc (fun u t H1 locs2 ht hvm hw hB hz1 hk1 hS2 => ?_)
  obtain ⟨hP1, hK1, hD1⟩ := hB
  rw [ht] at hP1
  obtain ⟨a, b⟩ := z_join hP hD hS hA isC isR hC h2C h2R hdis hcov hk1 hP1 hD1
  exact kk H1 locs2 a b hS2
/-- a static method that touches no cell -/
theorem zcallSi (S : CallFix p m c cc nL s args Ts own) (hM : zMi l y wy rm D cI cB As [] r []) (cw : CallB R s args own index y bytes maxL ret wy rm 0 0 n ∧ (Cond.static y).before args s = true) (hK : va_K D vwCl [(cI, .int), (cB, .byte)] s) (hP : va_P D vwCl ws H) (hD : va_D A ws) (hS : va_S A H0 H locs) (hA : ∀ q : Nat, H0.size ≤ q → A q)
    (hAs : As.length = n) (hls : ls.size = nL) (hroom : (rest.map fun v => v.category).sum ≤ 8) (hdg : decode cc pc = .ok (.invokestatic index, 3)) (hcs : cells ≤ R.cells ∧ slots ≤ R.slots) {st : List Value} (hst : st = As.reverse ++ rest)
    (kk : ∀ (H1 : Heap) (locs1 : List Loc), va_P D vwCl ws H1 → va_D A ws → va_S A H0 H1 locs1 → W p l e R s m args below meth c H1 locs1 cells slots Q (F0 m (pc + 3) ls (.int r :: rest))) : W p l e R s m args below meth c H locs cells slots Q (F0 m pc ls st) := by
  subst hst
  have hFc : ∀ q : Nat, va_A [] H.size q → A q := fun q h => by
    rcases h with ⟨k, e, h⟩ | h
    · simp at h
    · exact hA q (Nat.le_trans hS.1 h)
  refine va_calli (va_runS (As := As) (rest := rest) S (hM H.size) cw ⟨zPc_blind, fun U hU hW => ⟨rfl, by rw [hU], fun k q h => by simp at h, va_K.moved hW.alike hK, ⟨fun i j p q h => by simp at h, fun k q h => by simp at h⟩⟩⟩ rfl hAs hls rfl (lv_room hroom) hdg hcs) hS (fun q _ h => hFc q h) hFc (fun r2 u t H1 locs2 ht hvm hw hB hz1 hk1 hS2 => ?_)
  subst hw
  exact kk H1 locs2 (hP.kept (fun k q hq => hk1 q.1 ((hP k q hq).lt) (fun h => by
    rcases h with ⟨k, e, h⟩ | h
    · simp at h
    · exact absurd ((hP _ q hq).lt) (by omega)))) hD hS2
/-- the words of a static call whose class may be another one -/
theorem z_cwS {ws' : List Cond} (n : Nat) (ht : ∀ w ∈ Ts, w.before args s = true) (hT : GoodIn Ts (va_wsS own index y wy)) (hw : wy = Cond.code y bytes maxL ret :: ws') (hrc : rm.cells = 0) (hrs : rm.slots = 0) (hd : y.cls ≠ "java/lang/invoke/MethodHandle" ∧ y.cls ≠ "java/lang/invoke/VarHandle" ∧ (parseMethodDescriptor y.desc).map (fun d => d.parameters.length) = some n) (hR : rm.frames + 1 ≤ R.frames ∧ 8 + (maxL + 11) + rm.locals ≤ R.locals) : CallB R s args own index y bytes maxL ret wy rm 0 0 n ∧ (Cond.static y).before args s = true := by
  have ok : ∀ w ∈ va_wsS own index y wy, w.before args s = true := fun w h => ht w (hT w h).1
  exact ⟨callB_of n ht (fun w h => hT w (by unfold va_wsS; exact List.mem_append_right _ h)) hw hrc hrs (ok _ (by simp [va_wsS])) (ok _ (by simp [va_wsS])) hd hR, ok _ (by simp [va_wsS])⟩
end ZR
end
section
/-! the words of the tables, each by its place -/
theorem wd_s0 : Cond.selects "SuitByTailors$Text" ⟨"SuitByTailors$Text", "byteAt", "(I)I"⟩ ⟨"SuitByTailors$Text", "byteAt", "(I)I"⟩ ∈ wG := wG_of (List.mem_append_left _ (List.mem_of_getElem? (i := 0) rfl)) rfl
theorem wd_s1 : Cond.selects "SuitByTailors$Text" ⟨"SuitByTailors$Text", "readItem", "(II)I"⟩ ⟨"SuitByTailors$Text", "readItem", "(II)I"⟩ ∈ wG := wG_of (List.mem_append_left _ (List.mem_of_getElem? (i := 1) rfl)) rfl
theorem wd_s2 : Cond.selects "SuitByTailors$Text" ⟨"SuitByTailors$Text", "readNumber", "(II)I"⟩ ⟨"SuitByTailors$Text", "readNumber", "(II)I"⟩ ∈ wG := wG_of (List.mem_append_left _ (List.mem_of_getElem? (i := 2) rfl)) rfl
theorem wd_s3 : Cond.selects "SuitByTailors$Plan" ⟨"SuitByTailors$Plan", "takesTailor", "(I)Z"⟩ ⟨"SuitByTailors$Plan", "takesTailor", "(I)Z"⟩ ∈ wG := wG_of (List.mem_append_left _ (List.mem_of_getElem? (i := 3) rfl)) rfl
theorem wd_s4 : Cond.selects "SuitByTailors$Plan" ⟨"SuitByTailors$Plan", "takesPart", "(III)Z"⟩ ⟨"SuitByTailors$Plan", "takesPart", "(III)Z"⟩ ∈ wG := wG_of (List.mem_append_left _ (List.mem_of_getElem? (i := 4) rfl)) rfl
theorem wd_s5 : Cond.selects "SuitByTailors$Plan" ⟨"SuitByTailors$Plan", "takesSeam", "(II)Z"⟩ ⟨"SuitByTailors$Plan", "takesSeam", "(II)Z"⟩ ∈ wG := wG_of (List.mem_append_left _ (List.mem_of_getElem? (i := 5) rfl)) rfl
theorem wd_s6 : Cond.selects "SuitByTailors$Plan" ⟨"SuitByTailors$Plan", "takesGap", "(I)Z"⟩ ⟨"SuitByTailors$Plan", "takesGap", "(I)Z"⟩ ∈ wG := wG_of (List.mem_append_left _ (List.mem_of_getElem? (i := 6) rfl)) rfl
theorem wd_s7 : Cond.selects "SuitByTailors$Plan" ⟨"SuitByTailors$Plan", "takesBoy", "(I)Z"⟩ ⟨"SuitByTailors$Plan", "takesBoy", "(I)Z"⟩ ∈ wG := wG_of (List.mem_append_left _ (List.mem_of_getElem? (i := 7) rfl)) rfl
theorem wd_s8 : Cond.selects "SuitByTailors$Plan" ⟨"SuitByTailors$Plan", "takesBolt", "(I)Z"⟩ ⟨"SuitByTailors$Plan", "takesBolt", "(I)Z"⟩ ∈ wG := wG_of (List.mem_append_left _ (List.mem_of_getElem? (i := 8) rfl)) rfl
theorem wd_s9 : Cond.selects "SuitByTailors" ⟨"SuitByTailors", "slipNow", "(I)I"⟩ ⟨"SuitByTailors", "slipNow", "(I)I"⟩ ∈ wG := wG_of (List.mem_append_left _ (List.mem_of_getElem? (i := 9) rfl)) rfl
theorem wd_s10 : Cond.selects "SuitByTailors" ⟨"SuitByTailors", "lengthNow", "(I)I"⟩ ⟨"SuitByTailors", "lengthNow", "(I)I"⟩ ∈ wG := wG_of (List.mem_append_left _ (List.mem_of_getElem? (i := 10) rfl)) rfl
theorem wd_s11 : Cond.selects "SuitByTailors" ⟨"SuitByTailors", "measureNow", "()V"⟩ ⟨"SuitByTailors", "measureNow", "()V"⟩ ∈ wG := wG_of (List.mem_append_left _ (List.mem_of_getElem? (i := 11) rfl)) rfl
theorem wd_s12 : Cond.selects "SuitByTailors$OrderSearch" ⟨"SuitByTailors$OrderSearch", "tryPlace", "(LSuitByTailors$Plan;II)V"⟩ ⟨"SuitByTailors$OrderSearch", "tryPlace", "(LSuitByTailors$Plan;II)V"⟩ ∈ wG := wG_of (List.mem_append_left _ (List.mem_of_getElem? (i := 12) rfl)) rfl
theorem wd_s13 : Cond.selects "SuitByTailors$OrderSearch" ⟨"SuitByTailors$OrderSearch", "isPlaced", "(I)Z"⟩ ⟨"SuitByTailors$OrderSearch", "isPlaced", "(I)Z"⟩ ∈ wG := wG_of (List.mem_append_left _ (List.mem_of_getElem? (i := 13) rfl)) rfl
theorem wd_s14 : Cond.selects "SuitByTailors$OrderSearch" ⟨"SuitByTailors$OrderSearch", "tryPart", "(LSuitByTailors$Plan;III)V"⟩ ⟨"SuitByTailors$OrderSearch", "tryPart", "(LSuitByTailors$Plan;III)V"⟩ ∈ wG := wG_of (List.mem_append_left _ (List.mem_of_getElem? (i := 14) rfl)) rfl
theorem wd_s15 : Cond.selects "SuitByTailors$OrderSearch" ⟨"SuitByTailors$OrderSearch", "gapsWithPlaced", "(LSuitByTailors$Plan;I)I"⟩ ⟨"SuitByTailors$OrderSearch", "gapsWithPlaced", "(LSuitByTailors$Plan;I)I"⟩ ∈ wG := wG_of (List.mem_append_left _ (List.mem_of_getElem? (i := 15) rfl)) rfl
theorem wd_s16 : Cond.selects "SuitByTailors" ⟨"SuitByTailors", "isClosedByBribing", "(I)Z"⟩ ⟨"SuitByTailors", "isClosedByBribing", "(I)Z"⟩ ∈ wG := wG_of (List.mem_append_left _ (List.mem_of_getElem? (i := 16) rfl)) rfl
theorem wd_s17 : Cond.selects "SuitByTailors" ⟨"SuitByTailors", "levelSeams", "()V"⟩ ⟨"SuitByTailors", "levelSeams", "()V"⟩ ∈ wG := wG_of (List.mem_append_left _ (List.mem_of_getElem? (i := 17) rfl)) rfl
theorem wd_s18 : Cond.selects "SuitByTailors$BoltSearch" ⟨"SuitByTailors$BoltSearch", "findsBolts", "(LSuitByTailors$Plan;[III)Z"⟩ ⟨"SuitByTailors$BoltSearch", "findsBolts", "(LSuitByTailors$Plan;[III)Z"⟩ ∈ wG := wG_of (List.mem_append_left _ (List.mem_of_getElem? (i := 18) rfl)) rfl
theorem wd_s19 : Cond.selects "SuitByTailors$BoltSearch" ⟨"SuitByTailors$BoltSearch", "findsRest", "(LSuitByTailors$Plan;[III)Z"⟩ ⟨"SuitByTailors$BoltSearch", "findsRest", "(LSuitByTailors$Plan;[III)Z"⟩ ∈ wG := wG_of (List.mem_append_left _ (List.mem_of_getElem? (i := 19) rfl)) rfl
theorem wd_s20 : Cond.selects "SuitByTailors" ⟨"SuitByTailors", "cutByBoy", "(I)V"⟩ ⟨"SuitByTailors", "cutByBoy", "(I)V"⟩ ∈ wG := wG_of (List.mem_append_left _ (List.mem_of_getElem? (i := 20) rfl)) rfl
theorem wd_s21 : Cond.selects "SuitByTailorsModel" ⟨"SuitByTailorsModel", "begins", "()V"⟩ ⟨"SuitByTailorsModel", "begins", "()V"⟩ ∈ wG := wG_of (List.mem_append_left _ (List.mem_of_getElem? (i := 21) rfl)) rfl
theorem wd_s22 : Cond.selects "SuitByTailorsModel" ⟨"SuitByTailorsModel", "takes", "()V"⟩ ⟨"SuitByTailorsModel", "takes", "()V"⟩ ∈ wG := wG_of (List.mem_append_left _ (List.mem_of_getElem? (i := 22) rfl)) rfl
theorem wd_s23 : Cond.selects "SuitByTailorsModel" ⟨"SuitByTailorsModel", "isItem", "()Z"⟩ ⟨"SuitByTailorsModel", "isItem", "()Z"⟩ ∈ wG := wG_of (List.mem_append_left _ (List.mem_of_getElem? (i := 23) rfl)) rfl
theorem wd_s24 : Cond.selects "SuitByTailorsModel" ⟨"SuitByTailorsModel", "number", "()I"⟩ ⟨"SuitByTailorsModel", "number", "()I"⟩ ∈ wG := wG_of (List.mem_append_left _ (List.mem_of_getElem? (i := 24) rfl)) rfl
theorem wd_s25 : Cond.selects "SuitByTailorsModel" ⟨"SuitByTailorsModel", "isGood", "(I)Z"⟩ ⟨"SuitByTailorsModel", "isGood", "(I)Z"⟩ ∈ wG := wG_of (List.mem_append_left _ (List.mem_of_getElem? (i := 25) rfl)) rfl
theorem wd_s26 : Cond.selects "SuitByTailorsModel" ⟨"SuitByTailorsModel", "isPart", "(I)Z"⟩ ⟨"SuitByTailorsModel", "isPart", "(I)Z"⟩ ∈ wG := wG_of (List.mem_append_left _ (List.mem_of_getElem? (i := 26) rfl)) rfl
theorem wd_s27 : Cond.selects "SuitByTailorsModel" ⟨"SuitByTailorsModel", "placeOf", "(I)I"⟩ ⟨"SuitByTailorsModel", "placeOf", "(I)I"⟩ ∈ wG := wG_of (List.mem_append_left _ (List.mem_of_getElem? (i := 27) rfl)) rfl
theorem wd_s28 : Cond.selects "SuitByTailorsModel" ⟨"SuitByTailorsModel", "slipNow", "(I)I"⟩ ⟨"SuitByTailorsModel", "slipNow", "(I)I"⟩ ∈ wG := wG_of (List.mem_append_left _ (List.mem_of_getElem? (i := 28) rfl)) rfl
theorem wd_s29 : Cond.selects "SuitByTailorsModel" ⟨"SuitByTailorsModel", "cutOf", "(II)I"⟩ ⟨"SuitByTailorsModel", "cutOf", "(II)I"⟩ ∈ wG := wG_of (List.mem_append_left _ (List.mem_of_getElem? (i := 29) rfl)) rfl
theorem wd_s30 : Cond.selects "SuitByTailorsModel" ⟨"SuitByTailorsModel", "lengths", "()V"⟩ ⟨"SuitByTailorsModel", "lengths", "()V"⟩ ∈ wG := wG_of (List.mem_append_left _ (List.mem_of_getElem? (i := 30) rfl)) rfl
theorem wd_s31 : Cond.selects "SuitByTailorsModel" ⟨"SuitByTailorsModel", "gaps", "()I"⟩ ⟨"SuitByTailorsModel", "gaps", "()I"⟩ ∈ wG := wG_of (List.mem_append_left _ (List.mem_of_getElem? (i := 31) rfl)) rfl
theorem wd_s32 : Cond.selects "SuitByTailorsModel" ⟨"SuitByTailorsModel", "gapOf", "(I)I"⟩ ⟨"SuitByTailorsModel", "gapOf", "(I)I"⟩ ∈ wG := wG_of (List.mem_append_left _ (List.mem_of_getElem? (i := 32) rfl)) rfl
theorem wd_s33 : Cond.selects "SuitByTailorsModel" ⟨"SuitByTailorsModel", "isClosed", "()Z"⟩ ⟨"SuitByTailorsModel", "isClosed", "()Z"⟩ ∈ wG := wG_of (List.mem_append_left _ (List.mem_of_getElem? (i := 33) rfl)) rfl
theorem wd_s34 : Cond.selects "SuitByTailorsModel" ⟨"SuitByTailorsModel", "known", "()V"⟩ ⟨"SuitByTailorsModel", "known", "()V"⟩ ∈ wG := wG_of (List.mem_append_left _ (List.mem_of_getElem? (i := 34) rfl)) rfl
theorem wd_s35 : Cond.selects "SuitByTailorsModel" ⟨"SuitByTailorsModel", "copies", "(II)V"⟩ ⟨"SuitByTailorsModel", "copies", "(II)V"⟩ ∈ wG := wG_of (List.mem_append_left _ (List.mem_of_getElem? (i := 35) rfl)) rfl
theorem wd_s36 : Cond.selects "SuitByTailorsModel" ⟨"SuitByTailorsModel", "nextOrder", "()Z"⟩ ⟨"SuitByTailorsModel", "nextOrder", "()Z"⟩ ∈ wG := wG_of (List.mem_append_left _ (List.mem_of_getElem? (i := 36) rfl)) rfl
theorem wd_s37 : Cond.selects "SuitByTailorsModel" ⟨"SuitByTailorsModel", "isTailor", "(I)Z"⟩ ⟨"SuitByTailorsModel", "isTailor", "(I)Z"⟩ ∈ wG := wG_of (List.mem_append_left _ (List.mem_of_getElem? (i := 37) rfl)) rfl
theorem wd_s38 : Cond.selects "SuitByTailorsModel" ⟨"SuitByTailorsModel", "many", "()I"⟩ ⟨"SuitByTailorsModel", "many", "()I"⟩ ∈ wG := wG_of (List.mem_append_left _ (List.mem_of_getElem? (i := 38) rfl)) rfl
theorem wd_s39 : Cond.selects "SuitByTailorsModel" ⟨"SuitByTailorsModel", "nextBolts", "()Z"⟩ ⟨"SuitByTailorsModel", "nextBolts", "()Z"⟩ ∈ wG := wG_of (List.mem_append_left _ (List.mem_of_getElem? (i := 39) rfl)) rfl
theorem wd_s40 : Cond.selects "SuitByTailorsModel" ⟨"SuitByTailorsModel", "tailorOf", "(II)I"⟩ ⟨"SuitByTailorsModel", "tailorOf", "(II)I"⟩ ∈ wG := wG_of (List.mem_append_left _ (List.mem_of_getElem? (i := 40) rfl)) rfl
theorem wd_0 : Cond.initialized "SuitByTailorsLaw" ∈ wG := wG_of (List.mem_append_right _ (List.mem_append_left _ (List.mem_of_getElem? (i := 0) rfl))) rfl
theorem wd_1 : Cond.initialized "SuitByTailors" ∈ wG := wG_of (List.mem_append_right _ (List.mem_append_left _ (List.mem_of_getElem? (i := 1) rfl))) rfl
theorem wd_2 : Cond.initialized "SuitByTailors$Text" ∈ wG := wG_of (List.mem_append_right _ (List.mem_append_left _ (List.mem_of_getElem? (i := 2) rfl))) rfl
theorem wd_3 : Cond.initialized "SuitByTailors$Fitting" ∈ wG := wG_of (List.mem_append_right _ (List.mem_append_left _ (List.mem_of_getElem? (i := 3) rfl))) rfl
theorem wd_4 : Cond.initialized "SuitByTailors$FittingStack" ∈ wG := wG_of (List.mem_append_right _ (List.mem_append_left _ (List.mem_of_getElem? (i := 4) rfl))) rfl
theorem wd_5 : Cond.initialized "java/lang/Math" ∈ wG := wG_of (List.mem_append_right _ (List.mem_append_left _ (List.mem_of_getElem? (i := 5) rfl))) rfl
theorem wd_6 : Cond.initialized "SuitByTailors$Sightings" ∈ wG := wG_of (List.mem_append_right _ (List.mem_append_left _ (List.mem_of_getElem? (i := 6) rfl))) rfl
theorem wd_7 : Cond.initialized "SuitByTailors$Pins" ∈ wG := wG_of (List.mem_append_right _ (List.mem_append_left _ (List.mem_of_getElem? (i := 7) rfl))) rfl
theorem wd_8 : Cond.initialized "SuitByTailors$OrderSearch" ∈ wG := wG_of (List.mem_append_right _ (List.mem_append_left _ (List.mem_of_getElem? (i := 8) rfl))) rfl
theorem wd_9 : Cond.initialized "SuitByTailors$BoltSearch" ∈ wG := wG_of (List.mem_append_right _ (List.mem_append_left _ (List.mem_of_getElem? (i := 9) rfl))) rfl
theorem wd_10 : Cond.initialized "SuitByTailors$Plan" ∈ wG := wG_of (List.mem_append_right _ (List.mem_append_left _ (List.mem_of_getElem? (i := 10) rfl))) rfl
theorem wd_11 : Cond.initialized "java/lang/String" ∈ wG := wG_of (List.mem_append_right _ (List.mem_append_left _ (List.mem_of_getElem? (i := 11) rfl))) rfl
theorem wd_12 : Cond.initialized "java/lang/StringLatin1" ∈ wG := wG_of (List.mem_append_right _ (List.mem_append_left _ (List.mem_of_getElem? (i := 12) rfl))) rfl
theorem wd_13 : Cond.initialized "jdk/internal/util/Preconditions" ∈ wG := wG_of (List.mem_append_right _ (List.mem_append_left _ (List.mem_of_getElem? (i := 13) rfl))) rfl
theorem wd_14 : Cond.initialized "java/lang/StringUTF16" ∈ wG := wG_of (List.mem_append_right _ (List.mem_append_left _ (List.mem_of_getElem? (i := 14) rfl))) rfl
theorem wd_15 : Cond.initialized "SuitByTailorsModel" ∈ wG := wG_of (List.mem_append_right _ (List.mem_append_left _ (List.mem_of_getElem? (i := 15) rfl))) rfl
theorem wd_16 : Cond.classLink "SuitByTailorsLaw" 7 "SuitByTailors" ∈ wG := wG_of (List.mem_append_right _ (List.mem_append_left _ (List.mem_of_getElem? (i := 16) rfl))) rfl
theorem wd_17 : Cond.instantiable "SuitByTailors" 14 ∈ wG := wG_of (List.mem_append_right _ (List.mem_append_left _ (List.mem_of_getElem? (i := 17) rfl))) rfl
theorem wd_18 : Cond.methodLink "SuitByTailorsLaw" 9 ⟨"SuitByTailors", "<init>", "()V"⟩ ∈ wG := wG_of (List.mem_append_right _ (List.mem_append_left _ (List.mem_of_getElem? (i := 18) rfl))) rfl
theorem wd_19 : Cond.instanceMethod ⟨"SuitByTailors", "<init>", "()V"⟩ ∈ wG := wG_of (List.mem_append_right _ (List.mem_append_left _ (List.mem_of_getElem? (i := 19) rfl))) rfl
theorem wd_20 : Cond.code ⟨"SuitByTailors", "<init>", "()V"⟩ prog_1_method_1_code 2 none ∈ wG := wG_of (List.mem_append_right _ (List.mem_append_left _ (List.mem_of_getElem? (i := 20) rfl))) rfl
theorem wd_21 : Cond.methodLink "SuitByTailors" 1 ⟨"java/lang/Object", "<init>", "()V"⟩ ∈ wG := wG_of (List.mem_append_right _ (List.mem_append_left _ (List.mem_of_getElem? (i := 21) rfl))) rfl
theorem wd_22 : Cond.instanceMethod ⟨"java/lang/Object", "<init>", "()V"⟩ ∈ wG := wG_of (List.mem_append_right _ (List.mem_append_left _ (List.mem_of_getElem? (i := 22) rfl))) rfl
theorem wd_23 : Cond.code ⟨"java/lang/Object", "<init>", "()V"⟩ object_method_1_code 1 none ∈ wG := wG_of (List.mem_append_right _ (List.mem_append_left _ (List.mem_of_getElem? (i := 23) rfl))) rfl
theorem wd_24 : Cond.classLink "SuitByTailors" 7 "SuitByTailors$Text" ∈ wG := wG_of (List.mem_append_right _ (List.mem_append_left _ (List.mem_of_getElem? (i := 24) rfl))) rfl
theorem wd_25 : Cond.instantiable "SuitByTailors$Text" 3 ∈ wG := wG_of (List.mem_append_right _ (List.mem_append_left _ (List.mem_of_getElem? (i := 25) rfl))) rfl
theorem wd_27 : Cond.instanceMethod ⟨"SuitByTailors$Text", "<init>", "()V"⟩ ∈ wG := wG_of (List.mem_append_right _ (List.mem_append_left _ (List.mem_of_getElem? (i := 27) rfl))) rfl
theorem wd_28 : Cond.code ⟨"SuitByTailors$Text", "<init>", "()V"⟩ prog_9_method_1_code 1 none ∈ wG := wG_of (List.mem_append_right _ (List.mem_append_left _ (List.mem_of_getElem? (i := 28) rfl))) rfl
theorem wd_29 : Cond.methodLink "SuitByTailors$Text" 3 ⟨"java/lang/Object", "<init>", "()V"⟩ ∈ wG := wG_of (List.mem_append_right _ (List.mem_append_left _ (List.mem_of_getElem? (i := 29) rfl))) rfl
theorem wd_30 : Cond.fieldLink "SuitByTailors$Text" 9 "SuitByTailors$Text" "bytes" "[B" ∈ wG := wG_of (List.mem_append_right _ (List.mem_append_left _ (List.mem_of_getElem? (i := 30) rfl))) rfl
theorem wd_31 : Cond.fieldLink "SuitByTailors$Text" 15 "SuitByTailors$Text" "numbers" "[I" ∈ wG := wG_of (List.mem_append_right _ (List.mem_append_left _ (List.mem_of_getElem? (i := 31) rfl))) rfl
theorem wd_32 : Cond.fieldLink "SuitByTailors$Text" 19 "SuitByTailors$Text" "length" "I" ∈ wG := wG_of (List.mem_append_right _ (List.mem_append_left _ (List.mem_of_getElem? (i := 32) rfl))) rfl
theorem wd_33 : Cond.fieldLink "SuitByTailors" 105 "SuitByTailors$Text" "length" "I" ∈ wG := wG_of (List.mem_append_right _ (List.mem_append_left _ (List.mem_of_getElem? (i := 33) rfl))) rfl
theorem wd_34 : Cond.laysFinal "SuitByTailors$Text" "SuitByTailors$Text" "bytes" "[B" ∈ wG := wG_of (List.mem_append_right _ (List.mem_append_left _ (List.mem_of_getElem? (i := 34) rfl))) rfl
theorem wd_36 : Cond.laysFinal "SuitByTailors$Text" "SuitByTailors$Text" "numbers" "[I" ∈ wG := wG_of (List.mem_append_right _ (List.mem_append_left _ (List.mem_of_getElem? (i := 36) rfl))) rfl
theorem wd_38 : Cond.lays "SuitByTailors$Text" "SuitByTailors$Text" "length" "I" ∈ wG := wG_of (List.mem_append_right _ (List.mem_append_left _ (List.mem_of_getElem? (i := 38) rfl))) rfl
theorem wd_41 : Cond.arrayClass Jvm.ClassFile.FieldType.byte ∈ wG := wG_of (List.mem_append_right _ (List.mem_append_left _ (List.mem_of_getElem? (i := 41) rfl))) rfl
theorem wd_42 : Cond.arrayClass Jvm.ClassFile.FieldType.int ∈ wG := wG_of (List.mem_append_right _ (List.mem_append_left _ (List.mem_of_getElem? (i := 42) rfl))) rfl
theorem wd_43 : Cond.classLink "SuitByTailors" 16 "SuitByTailors$Fitting" ∈ wG := wG_of (List.mem_append_right _ (List.mem_append_left _ (List.mem_of_getElem? (i := 43) rfl))) rfl
theorem wd_44 : Cond.instantiable "SuitByTailors$Fitting" 2 ∈ wG := wG_of (List.mem_append_right _ (List.mem_append_left _ (List.mem_of_getElem? (i := 44) rfl))) rfl
theorem wd_45 : Cond.methodLink "SuitByTailors" 18 ⟨"SuitByTailors$Fitting", "<init>", "()V"⟩ ∈ wG := wG_of (List.mem_append_right _ (List.mem_append_left _ (List.mem_of_getElem? (i := 45) rfl))) rfl
theorem wd_46 : Cond.instanceMethod ⟨"SuitByTailors$Fitting", "<init>", "()V"⟩ ∈ wG := wG_of (List.mem_append_right _ (List.mem_append_left _ (List.mem_of_getElem? (i := 46) rfl))) rfl
theorem wd_47 : Cond.code ⟨"SuitByTailors$Fitting", "<init>", "()V"⟩ prog_3_method_1_code 1 none ∈ wG := wG_of (List.mem_append_right _ (List.mem_append_left _ (List.mem_of_getElem? (i := 47) rfl))) rfl
theorem wd_48 : Cond.methodLink "SuitByTailors$Fitting" 3 ⟨"java/lang/Object", "<init>", "()V"⟩ ∈ wG := wG_of (List.mem_append_right _ (List.mem_append_left _ (List.mem_of_getElem? (i := 48) rfl))) rfl
theorem wd_49 : Cond.methodLink "SuitByTailors$Fitting" 18 ⟨"SuitByTailors$Fitting", "startAnew", "()V"⟩ ∈ wG := wG_of (List.mem_append_right _ (List.mem_append_left _ (List.mem_of_getElem? (i := 49) rfl))) rfl
theorem wd_50 : Cond.instanceMethod ⟨"SuitByTailors$Fitting", "startAnew", "()V"⟩ ∈ wG := wG_of (List.mem_append_right _ (List.mem_append_left _ (List.mem_of_getElem? (i := 50) rfl))) rfl
theorem wd_51 : Cond.selects "SuitByTailors$Fitting" ⟨"SuitByTailors$Fitting", "startAnew", "()V"⟩ ⟨"SuitByTailors$Fitting", "startAnew", "()V"⟩ ∈ wG := wG_of (List.mem_append_right _ (List.mem_append_left _ (List.mem_of_getElem? (i := 51) rfl))) rfl
theorem wd_52 : Cond.code ⟨"SuitByTailors$Fitting", "startAnew", "()V"⟩ prog_3_method_2_code 2 none ∈ wG := wG_of (List.mem_append_right _ (List.mem_append_left _ (List.mem_of_getElem? (i := 52) rfl))) rfl
theorem wd_53 : Cond.fieldLink "SuitByTailors$Fitting" 9 "SuitByTailors$Fitting" "partAt" "[I" ∈ wG := wG_of (List.mem_append_right _ (List.mem_append_left _ (List.mem_of_getElem? (i := 53) rfl))) rfl
theorem wd_54 : Cond.fieldLink "SuitByTailors$FittingStack" 34 "SuitByTailors$Fitting" "partAt" "[I" ∈ wG := wG_of (List.mem_append_right _ (List.mem_append_left _ (List.mem_of_getElem? (i := 54) rfl))) rfl
theorem wd_55 : Cond.fieldLink "SuitByTailors$Fitting" 15 "SuitByTailors$Fitting" "longerBy" "[I" ∈ wG := wG_of (List.mem_append_right _ (List.mem_append_left _ (List.mem_of_getElem? (i := 55) rfl))) rfl
theorem wd_56 : Cond.fieldLink "SuitByTailors$FittingStack" 37 "SuitByTailors$Fitting" "longerBy" "[I" ∈ wG := wG_of (List.mem_append_right _ (List.mem_append_left _ (List.mem_of_getElem? (i := 56) rfl))) rfl
theorem wd_57 : Cond.fieldLink "SuitByTailors" 178 "SuitByTailors$Fitting" "longerBy" "[I" ∈ wG := wG_of (List.mem_append_right _ (List.mem_append_left _ (List.mem_of_getElem? (i := 57) rfl))) rfl
theorem wd_58 : Cond.laysFinal "SuitByTailors$Fitting" "SuitByTailors$Fitting" "partAt" "[I" ∈ wG := wG_of (List.mem_append_right _ (List.mem_append_left _ (List.mem_of_getElem? (i := 58) rfl))) rfl
theorem wd_60 : Cond.laysFinal "SuitByTailors$Fitting" "SuitByTailors$Fitting" "longerBy" "[I" ∈ wG := wG_of (List.mem_append_right _ (List.mem_append_left _ (List.mem_of_getElem? (i := 60) rfl))) rfl
theorem wd_63 : Cond.classLink "SuitByTailors" 23 "SuitByTailors$FittingStack" ∈ wG := wG_of (List.mem_append_right _ (List.mem_append_left _ (List.mem_of_getElem? (i := 63) rfl))) rfl
theorem wd_64 : Cond.instantiable "SuitByTailors$FittingStack" 5 ∈ wG := wG_of (List.mem_append_right _ (List.mem_append_left _ (List.mem_of_getElem? (i := 64) rfl))) rfl
theorem wd_65 : Cond.methodLink "SuitByTailors" 25 ⟨"SuitByTailors$FittingStack", "<init>", "(I)V"⟩ ∈ wG := wG_of (List.mem_append_right _ (List.mem_append_left _ (List.mem_of_getElem? (i := 65) rfl))) rfl
theorem wd_66 : Cond.instanceMethod ⟨"SuitByTailors$FittingStack", "<init>", "(I)V"⟩ ∈ wG := wG_of (List.mem_append_right _ (List.mem_append_left _ (List.mem_of_getElem? (i := 66) rfl))) rfl
theorem wd_67 : Cond.code ⟨"SuitByTailors$FittingStack", "<init>", "(I)V"⟩ prog_4_method_1_code 2 none ∈ wG := wG_of (List.mem_append_right _ (List.mem_append_left _ (List.mem_of_getElem? (i := 67) rfl))) rfl
theorem wd_68 : Cond.methodLink "SuitByTailors$FittingStack" 3 ⟨"java/lang/Object", "<init>", "()V"⟩ ∈ wG := wG_of (List.mem_append_right _ (List.mem_append_left _ (List.mem_of_getElem? (i := 68) rfl))) rfl
theorem wd_69 : Cond.methodLink "SuitByTailors$FittingStack" 18 ⟨"java/lang/Math", "max", "(II)I"⟩ ∈ wG := wG_of (List.mem_append_right _ (List.mem_append_left _ (List.mem_of_getElem? (i := 69) rfl))) rfl
theorem wd_70 : Cond.static ⟨"java/lang/Math", "max", "(II)I"⟩ ∈ wG := wG_of (List.mem_append_right _ (List.mem_append_left _ (List.mem_of_getElem? (i := 70) rfl))) rfl
theorem wd_71 : Cond.code ⟨"java/lang/Math", "max", "(II)I"⟩ prog_12_method_65_code 2 (some .int) ∈ wG := wG_of (List.mem_append_right _ (List.mem_append_left _ (List.mem_of_getElem? (i := 71) rfl))) rfl
theorem wd_72 : Cond.fieldLink "SuitByTailors$FittingStack" 24 "SuitByTailors$FittingStack" "most" "I" ∈ wG := wG_of (List.mem_append_right _ (List.mem_append_left _ (List.mem_of_getElem? (i := 72) rfl))) rfl
theorem wd_73 : Cond.fieldLink "SuitByTailors$FittingStack" 27 "SuitByTailors$FittingStack" "partAt" "[I" ∈ wG := wG_of (List.mem_append_right _ (List.mem_append_left _ (List.mem_of_getElem? (i := 73) rfl))) rfl
theorem wd_74 : Cond.fieldLink "SuitByTailors$FittingStack" 31 "SuitByTailors$FittingStack" "longerBy" "[I" ∈ wG := wG_of (List.mem_append_right _ (List.mem_append_left _ (List.mem_of_getElem? (i := 74) rfl))) rfl
theorem wd_75 : Cond.fieldLink "SuitByTailors$FittingStack" 9 "SuitByTailors$FittingStack" "size" "I" ∈ wG := wG_of (List.mem_append_right _ (List.mem_append_left _ (List.mem_of_getElem? (i := 75) rfl))) rfl
theorem wd_76 : Cond.fieldLink "SuitByTailors" 181 "SuitByTailors$FittingStack" "size" "I" ∈ wG := wG_of (List.mem_append_right _ (List.mem_append_left _ (List.mem_of_getElem? (i := 76) rfl))) rfl
theorem wd_77 : Cond.fieldLink "SuitByTailors$FittingStack" 15 "SuitByTailors$FittingStack" "next" "I" ∈ wG := wG_of (List.mem_append_right _ (List.mem_append_left _ (List.mem_of_getElem? (i := 77) rfl))) rfl
theorem wd_78 : Cond.laysFinal "SuitByTailors$FittingStack" "SuitByTailors$FittingStack" "most" "I" ∈ wG := wG_of (List.mem_append_right _ (List.mem_append_left _ (List.mem_of_getElem? (i := 78) rfl))) rfl
theorem wd_80 : Cond.laysFinal "SuitByTailors$FittingStack" "SuitByTailors$FittingStack" "partAt" "[I" ∈ wG := wG_of (List.mem_append_right _ (List.mem_append_left _ (List.mem_of_getElem? (i := 80) rfl))) rfl
theorem wd_82 : Cond.laysFinal "SuitByTailors$FittingStack" "SuitByTailors$FittingStack" "longerBy" "[I" ∈ wG := wG_of (List.mem_append_right _ (List.mem_append_left _ (List.mem_of_getElem? (i := 82) rfl))) rfl
theorem wd_84 : Cond.lays "SuitByTailors$FittingStack" "SuitByTailors$FittingStack" "size" "I" ∈ wG := wG_of (List.mem_append_right _ (List.mem_append_left _ (List.mem_of_getElem? (i := 84) rfl))) rfl
theorem wd_86 : Cond.lays "SuitByTailors$FittingStack" "SuitByTailors$FittingStack" "next" "I" ∈ wG := wG_of (List.mem_append_right _ (List.mem_append_left _ (List.mem_of_getElem? (i := 86) rfl))) rfl
theorem wd_89 : Cond.classLink "SuitByTailors" 35 "SuitByTailors$Sightings" ∈ wG := wG_of (List.mem_append_right _ (List.mem_append_left _ (List.mem_of_getElem? (i := 89) rfl))) rfl
theorem wd_90 : Cond.instantiable "SuitByTailors$Sightings" 4 ∈ wG := wG_of (List.mem_append_right _ (List.mem_append_left _ (List.mem_of_getElem? (i := 90) rfl))) rfl
theorem wd_92 : Cond.instanceMethod ⟨"SuitByTailors$Sightings", "<init>", "()V"⟩ ∈ wG := wG_of (List.mem_append_right _ (List.mem_append_left _ (List.mem_of_getElem? (i := 92) rfl))) rfl
theorem wd_93 : Cond.code ⟨"SuitByTailors$Sightings", "<init>", "()V"⟩ prog_8_method_1_code 1 none ∈ wG := wG_of (List.mem_append_right _ (List.mem_append_left _ (List.mem_of_getElem? (i := 93) rfl))) rfl
theorem wd_94 : Cond.methodLink "SuitByTailors$Sightings" 3 ⟨"java/lang/Object", "<init>", "()V"⟩ ∈ wG := wG_of (List.mem_append_right _ (List.mem_append_left _ (List.mem_of_getElem? (i := 94) rfl))) rfl
theorem wd_95 : Cond.fieldLink "SuitByTailors$Sightings" 9 "SuitByTailors$Sightings" "tailorOf" "[I" ∈ wG := wG_of (List.mem_append_right _ (List.mem_append_left _ (List.mem_of_getElem? (i := 95) rfl))) rfl
theorem wd_96 : Cond.fieldLink "SuitByTailors$Sightings" 15 "SuitByTailors$Sightings" "toldOf" "[I" ∈ wG := wG_of (List.mem_append_right _ (List.mem_append_left _ (List.mem_of_getElem? (i := 96) rfl))) rfl
theorem wd_97 : Cond.fieldLink "SuitByTailors$Sightings" 18 "SuitByTailors$Sightings" "cutOf" "[I" ∈ wG := wG_of (List.mem_append_right _ (List.mem_append_left _ (List.mem_of_getElem? (i := 97) rfl))) rfl
theorem wd_98 : Cond.fieldLink "SuitByTailors$Sightings" 21 "SuitByTailors$Sightings" "size" "I" ∈ wG := wG_of (List.mem_append_right _ (List.mem_append_left _ (List.mem_of_getElem? (i := 98) rfl))) rfl
theorem wd_99 : Cond.fieldLink "SuitByTailors" 117 "SuitByTailors$Sightings" "size" "I" ∈ wG := wG_of (List.mem_append_right _ (List.mem_append_left _ (List.mem_of_getElem? (i := 99) rfl))) rfl
theorem wd_100 : Cond.laysFinal "SuitByTailors$Sightings" "SuitByTailors$Sightings" "tailorOf" "[I" ∈ wG := wG_of (List.mem_append_right _ (List.mem_append_left _ (List.mem_of_getElem? (i := 100) rfl))) rfl
theorem wd_102 : Cond.laysFinal "SuitByTailors$Sightings" "SuitByTailors$Sightings" "toldOf" "[I" ∈ wG := wG_of (List.mem_append_right _ (List.mem_append_left _ (List.mem_of_getElem? (i := 102) rfl))) rfl
theorem wd_104 : Cond.laysFinal "SuitByTailors$Sightings" "SuitByTailors$Sightings" "cutOf" "[I" ∈ wG := wG_of (List.mem_append_right _ (List.mem_append_left _ (List.mem_of_getElem? (i := 104) rfl))) rfl
theorem wd_106 : Cond.lays "SuitByTailors$Sightings" "SuitByTailors$Sightings" "size" "I" ∈ wG := wG_of (List.mem_append_right _ (List.mem_append_left _ (List.mem_of_getElem? (i := 106) rfl))) rfl
theorem wd_109 : Cond.classLink "SuitByTailors" 42 "SuitByTailors$Pins" ∈ wG := wG_of (List.mem_append_right _ (List.mem_append_left _ (List.mem_of_getElem? (i := 109) rfl))) rfl
theorem wd_110 : Cond.instantiable "SuitByTailors$Pins" 3 ∈ wG := wG_of (List.mem_append_right _ (List.mem_append_left _ (List.mem_of_getElem? (i := 110) rfl))) rfl
theorem wd_112 : Cond.instanceMethod ⟨"SuitByTailors$Pins", "<init>", "()V"⟩ ∈ wG := wG_of (List.mem_append_right _ (List.mem_append_left _ (List.mem_of_getElem? (i := 112) rfl))) rfl
theorem wd_113 : Cond.code ⟨"SuitByTailors$Pins", "<init>", "()V"⟩ prog_6_method_1_code 1 none ∈ wG := wG_of (List.mem_append_right _ (List.mem_append_left _ (List.mem_of_getElem? (i := 113) rfl))) rfl
theorem wd_114 : Cond.methodLink "SuitByTailors$Pins" 3 ⟨"java/lang/Object", "<init>", "()V"⟩ ∈ wG := wG_of (List.mem_append_right _ (List.mem_append_left _ (List.mem_of_getElem? (i := 114) rfl))) rfl
theorem wd_115 : Cond.fieldLink "SuitByTailors$Pins" 9 "SuitByTailors$Pins" "seamOf" "[I" ∈ wG := wG_of (List.mem_append_right _ (List.mem_append_left _ (List.mem_of_getElem? (i := 115) rfl))) rfl
theorem wd_116 : Cond.fieldLink "SuitByTailors$Pins" 15 "SuitByTailors$Pins" "tailorOf" "[I" ∈ wG := wG_of (List.mem_append_right _ (List.mem_append_left _ (List.mem_of_getElem? (i := 116) rfl))) rfl
theorem wd_117 : Cond.fieldLink "SuitByTailors" 241 "SuitByTailors$Pins" "tailorOf" "[I" ∈ wG := wG_of (List.mem_append_right _ (List.mem_append_left _ (List.mem_of_getElem? (i := 117) rfl))) rfl
theorem wd_118 : Cond.fieldLink "SuitByTailors$Pins" 18 "SuitByTailors$Pins" "size" "I" ∈ wG := wG_of (List.mem_append_right _ (List.mem_append_left _ (List.mem_of_getElem? (i := 118) rfl))) rfl
theorem wd_119 : Cond.fieldLink "SuitByTailors" 120 "SuitByTailors$Pins" "size" "I" ∈ wG := wG_of (List.mem_append_right _ (List.mem_append_left _ (List.mem_of_getElem? (i := 119) rfl))) rfl
theorem wd_120 : Cond.laysFinal "SuitByTailors$Pins" "SuitByTailors$Pins" "seamOf" "[I" ∈ wG := wG_of (List.mem_append_right _ (List.mem_append_left _ (List.mem_of_getElem? (i := 120) rfl))) rfl
theorem wd_122 : Cond.laysFinal "SuitByTailors$Pins" "SuitByTailors$Pins" "tailorOf" "[I" ∈ wG := wG_of (List.mem_append_right _ (List.mem_append_left _ (List.mem_of_getElem? (i := 122) rfl))) rfl
theorem wd_124 : Cond.lays "SuitByTailors$Pins" "SuitByTailors$Pins" "size" "I" ∈ wG := wG_of (List.mem_append_right _ (List.mem_append_left _ (List.mem_of_getElem? (i := 124) rfl))) rfl
theorem wd_127 : Cond.classLink "SuitByTailors" 49 "SuitByTailors$OrderSearch" ∈ wG := wG_of (List.mem_append_right _ (List.mem_append_left _ (List.mem_of_getElem? (i := 127) rfl))) rfl
theorem wd_128 : Cond.instantiable "SuitByTailors$OrderSearch" 6 ∈ wG := wG_of (List.mem_append_right _ (List.mem_append_left _ (List.mem_of_getElem? (i := 128) rfl))) rfl
theorem wd_130 : Cond.instanceMethod ⟨"SuitByTailors$OrderSearch", "<init>", "()V"⟩ ∈ wG := wG_of (List.mem_append_right _ (List.mem_append_left _ (List.mem_of_getElem? (i := 130) rfl))) rfl
theorem wd_131 : Cond.code ⟨"SuitByTailors$OrderSearch", "<init>", "()V"⟩ prog_5_method_1_code 1 none ∈ wG := wG_of (List.mem_append_right _ (List.mem_append_left _ (List.mem_of_getElem? (i := 131) rfl))) rfl
theorem wd_132 : Cond.methodLink "SuitByTailors$OrderSearch" 3 ⟨"java/lang/Object", "<init>", "()V"⟩ ∈ wG := wG_of (List.mem_append_right _ (List.mem_append_left _ (List.mem_of_getElem? (i := 132) rfl))) rfl
theorem wd_133 : Cond.fieldLink "SuitByTailors$OrderSearch" 9 "SuitByTailors$OrderSearch" "best" "[I" ∈ wG := wG_of (List.mem_append_right _ (List.mem_append_left _ (List.mem_of_getElem? (i := 133) rfl))) rfl
theorem wd_134 : Cond.fieldLink "SuitByTailors" 192 "SuitByTailors$OrderSearch" "best" "[I" ∈ wG := wG_of (List.mem_append_right _ (List.mem_append_left _ (List.mem_of_getElem? (i := 134) rfl))) rfl
theorem wd_135 : Cond.fieldLink "SuitByTailors$OrderSearch" 15 "SuitByTailors$OrderSearch" "known" "Z" ∈ wG := wG_of (List.mem_append_right _ (List.mem_append_left _ (List.mem_of_getElem? (i := 135) rfl))) rfl
theorem wd_136 : Cond.fieldLink "SuitByTailors" 121 "SuitByTailors$OrderSearch" "known" "Z" ∈ wG := wG_of (List.mem_append_right _ (List.mem_append_left _ (List.mem_of_getElem? (i := 136) rfl))) rfl
theorem wd_137 : Cond.fieldLink "SuitByTailors$OrderSearch" 19 "SuitByTailors$OrderSearch" "leastSum" "I" ∈ wG := wG_of (List.mem_append_right _ (List.mem_append_left _ (List.mem_of_getElem? (i := 137) rfl))) rfl
theorem wd_138 : Cond.fieldLink "SuitByTailors" 189 "SuitByTailors$OrderSearch" "leastSum" "I" ∈ wG := wG_of (List.mem_append_right _ (List.mem_append_left _ (List.mem_of_getElem? (i := 138) rfl))) rfl
theorem wd_139 : Cond.fieldLink "SuitByTailors$OrderSearch" 23 "SuitByTailors$OrderSearch" "tried" "[I" ∈ wG := wG_of (List.mem_append_right _ (List.mem_append_left _ (List.mem_of_getElem? (i := 139) rfl))) rfl
theorem wd_140 : Cond.fieldLink "SuitByTailors$OrderSearch" 26 "SuitByTailors$OrderSearch" "row" "[I" ∈ wG := wG_of (List.mem_append_right _ (List.mem_append_left _ (List.mem_of_getElem? (i := 140) rfl))) rfl
theorem wd_141 : Cond.fieldLink "SuitByTailors$OrderSearch" 29 "SuitByTailors$OrderSearch" "placed" "I" ∈ wG := wG_of (List.mem_append_right _ (List.mem_append_left _ (List.mem_of_getElem? (i := 141) rfl))) rfl
theorem wd_142 : Cond.laysFinal "SuitByTailors$OrderSearch" "SuitByTailors$OrderSearch" "best" "[I" ∈ wG := wG_of (List.mem_append_right _ (List.mem_append_left _ (List.mem_of_getElem? (i := 142) rfl))) rfl
theorem wd_144 : Cond.lays "SuitByTailors$OrderSearch" "SuitByTailors$OrderSearch" "known" "Z" ∈ wG := wG_of (List.mem_append_right _ (List.mem_append_left _ (List.mem_of_getElem? (i := 144) rfl))) rfl
theorem wd_146 : Cond.lays "SuitByTailors$OrderSearch" "SuitByTailors$OrderSearch" "leastSum" "I" ∈ wG := wG_of (List.mem_append_right _ (List.mem_append_left _ (List.mem_of_getElem? (i := 146) rfl))) rfl
theorem wd_148 : Cond.laysFinal "SuitByTailors$OrderSearch" "SuitByTailors$OrderSearch" "tried" "[I" ∈ wG := wG_of (List.mem_append_right _ (List.mem_append_left _ (List.mem_of_getElem? (i := 148) rfl))) rfl
theorem wd_150 : Cond.laysFinal "SuitByTailors$OrderSearch" "SuitByTailors$OrderSearch" "row" "[I" ∈ wG := wG_of (List.mem_append_right _ (List.mem_append_left _ (List.mem_of_getElem? (i := 150) rfl))) rfl
theorem wd_152 : Cond.lays "SuitByTailors$OrderSearch" "SuitByTailors$OrderSearch" "placed" "I" ∈ wG := wG_of (List.mem_append_right _ (List.mem_append_left _ (List.mem_of_getElem? (i := 152) rfl))) rfl
theorem wd_155 : Cond.classLink "SuitByTailors" 56 "SuitByTailors$BoltSearch" ∈ wG := wG_of (List.mem_append_right _ (List.mem_append_left _ (List.mem_of_getElem? (i := 155) rfl))) rfl
theorem wd_156 : Cond.instantiable "SuitByTailors$BoltSearch" 3 ∈ wG := wG_of (List.mem_append_right _ (List.mem_append_left _ (List.mem_of_getElem? (i := 156) rfl))) rfl
theorem wd_158 : Cond.instanceMethod ⟨"SuitByTailors$BoltSearch", "<init>", "()V"⟩ ∈ wG := wG_of (List.mem_append_right _ (List.mem_append_left _ (List.mem_of_getElem? (i := 158) rfl))) rfl
theorem wd_159 : Cond.code ⟨"SuitByTailors$BoltSearch", "<init>", "()V"⟩ prog_2_method_1_code 1 none ∈ wG := wG_of (List.mem_append_right _ (List.mem_append_left _ (List.mem_of_getElem? (i := 159) rfl))) rfl
theorem wd_160 : Cond.methodLink "SuitByTailors$BoltSearch" 3 ⟨"java/lang/Object", "<init>", "()V"⟩ ∈ wG := wG_of (List.mem_append_right _ (List.mem_append_left _ (List.mem_of_getElem? (i := 160) rfl))) rfl
theorem wd_161 : Cond.fieldLink "SuitByTailors$BoltSearch" 9 "SuitByTailors$BoltSearch" "boltOf" "[I" ∈ wG := wG_of (List.mem_append_right _ (List.mem_append_left _ (List.mem_of_getElem? (i := 161) rfl))) rfl
theorem wd_162 : Cond.fieldLink "SuitByTailors" 222 "SuitByTailors$BoltSearch" "boltOf" "[I" ∈ wG := wG_of (List.mem_append_right _ (List.mem_append_left _ (List.mem_of_getElem? (i := 162) rfl))) rfl
theorem wd_163 : Cond.fieldLink "SuitByTailors$BoltSearch" 15 "SuitByTailors$BoltSearch" "filled" "[I" ∈ wG := wG_of (List.mem_append_right _ (List.mem_append_left _ (List.mem_of_getElem? (i := 163) rfl))) rfl
theorem wd_164 : Cond.fieldLink "SuitByTailors$BoltSearch" 18 "SuitByTailors$BoltSearch" "most" "I" ∈ wG := wG_of (List.mem_append_right _ (List.mem_append_left _ (List.mem_of_getElem? (i := 164) rfl))) rfl
theorem wd_165 : Cond.laysFinal "SuitByTailors$BoltSearch" "SuitByTailors$BoltSearch" "boltOf" "[I" ∈ wG := wG_of (List.mem_append_right _ (List.mem_append_left _ (List.mem_of_getElem? (i := 165) rfl))) rfl
theorem wd_167 : Cond.laysFinal "SuitByTailors$BoltSearch" "SuitByTailors$BoltSearch" "filled" "[I" ∈ wG := wG_of (List.mem_append_right _ (List.mem_append_left _ (List.mem_of_getElem? (i := 167) rfl))) rfl
theorem wd_169 : Cond.lays "SuitByTailors$BoltSearch" "SuitByTailors$BoltSearch" "most" "I" ∈ wG := wG_of (List.mem_append_right _ (List.mem_append_left _ (List.mem_of_getElem? (i := 169) rfl))) rfl
theorem wd_172 : Cond.classLink "SuitByTailors" 76 "SuitByTailors$Plan" ∈ wG := wG_of (List.mem_append_right _ (List.mem_append_left _ (List.mem_of_getElem? (i := 172) rfl))) rfl
theorem wd_173 : Cond.instantiable "SuitByTailors$Plan" 12 ∈ wG := wG_of (List.mem_append_right _ (List.mem_append_left _ (List.mem_of_getElem? (i := 173) rfl))) rfl
theorem wd_175 : Cond.instanceMethod ⟨"SuitByTailors$Plan", "<init>", "()V"⟩ ∈ wG := wG_of (List.mem_append_right _ (List.mem_append_left _ (List.mem_of_getElem? (i := 175) rfl))) rfl
theorem wd_176 : Cond.code ⟨"SuitByTailors$Plan", "<init>", "()V"⟩ prog_7_method_1_code 1 none ∈ wG := wG_of (List.mem_append_right _ (List.mem_append_left _ (List.mem_of_getElem? (i := 176) rfl))) rfl
theorem wd_177 : Cond.methodLink "SuitByTailors$Plan" 3 ⟨"java/lang/Object", "<init>", "()V"⟩ ∈ wG := wG_of (List.mem_append_right _ (List.mem_append_left _ (List.mem_of_getElem? (i := 177) rfl))) rfl
theorem wd_178 : Cond.fieldLink "SuitByTailors$Plan" 9 "SuitByTailors$Plan" "inches" "[I" ∈ wG := wG_of (List.mem_append_right _ (List.mem_append_left _ (List.mem_of_getElem? (i := 178) rfl))) rfl
theorem wd_179 : Cond.fieldLink "SuitByTailors$Plan" 15 "SuitByTailors$Plan" "tailorOf" "[I" ∈ wG := wG_of (List.mem_append_right _ (List.mem_append_left _ (List.mem_of_getElem? (i := 179) rfl))) rfl
theorem wd_180 : Cond.fieldLink "SuitByTailors" 129 "SuitByTailors$Plan" "tailorOf" "[I" ∈ wG := wG_of (List.mem_append_right _ (List.mem_append_left _ (List.mem_of_getElem? (i := 180) rfl))) rfl
theorem wd_181 : Cond.fieldLink "SuitByTailors$Plan" 18 "SuitByTailors$Plan" "lengthOf" "[I" ∈ wG := wG_of (List.mem_append_right _ (List.mem_append_left _ (List.mem_of_getElem? (i := 181) rfl))) rfl
theorem wd_182 : Cond.fieldLink "SuitByTailors" 132 "SuitByTailors$Plan" "lengthOf" "[I" ∈ wG := wG_of (List.mem_append_right _ (List.mem_append_left _ (List.mem_of_getElem? (i := 182) rfl))) rfl
theorem wd_183 : Cond.fieldLink "SuitByTailors$Plan" 21 "SuitByTailors$Plan" "bribeFor" "[I" ∈ wG := wG_of (List.mem_append_right _ (List.mem_append_left _ (List.mem_of_getElem? (i := 183) rfl))) rfl
theorem wd_184 : Cond.fieldLink "SuitByTailors" 135 "SuitByTailors$Plan" "bribeFor" "[I" ∈ wG := wG_of (List.mem_append_right _ (List.mem_append_left _ (List.mem_of_getElem? (i := 184) rfl))) rfl
theorem wd_185 : Cond.fieldLink "SuitByTailors$Plan" 24 "SuitByTailors$Plan" "firstOf" "[I" ∈ wG := wG_of (List.mem_append_right _ (List.mem_append_left _ (List.mem_of_getElem? (i := 185) rfl))) rfl
theorem wd_186 : Cond.fieldLink "SuitByTailors$OrderSearch" 70 "SuitByTailors$Plan" "firstOf" "[I" ∈ wG := wG_of (List.mem_append_right _ (List.mem_append_left _ (List.mem_of_getElem? (i := 186) rfl))) rfl
theorem wd_187 : Cond.fieldLink "SuitByTailors" 230 "SuitByTailors$Plan" "firstOf" "[I" ∈ wG := wG_of (List.mem_append_right _ (List.mem_append_left _ (List.mem_of_getElem? (i := 187) rfl))) rfl
theorem wd_188 : Cond.fieldLink "SuitByTailors$Plan" 27 "SuitByTailors$Plan" "secondOf" "[I" ∈ wG := wG_of (List.mem_append_right _ (List.mem_append_left _ (List.mem_of_getElem? (i := 188) rfl))) rfl
theorem wd_189 : Cond.fieldLink "SuitByTailors$OrderSearch" 73 "SuitByTailors$Plan" "secondOf" "[I" ∈ wG := wG_of (List.mem_append_right _ (List.mem_append_left _ (List.mem_of_getElem? (i := 189) rfl))) rfl
theorem wd_190 : Cond.fieldLink "SuitByTailors" 233 "SuitByTailors$Plan" "secondOf" "[I" ∈ wG := wG_of (List.mem_append_right _ (List.mem_append_left _ (List.mem_of_getElem? (i := 190) rfl))) rfl
theorem wd_191 : Cond.fieldLink "SuitByTailors$Plan" 30 "SuitByTailors$Plan" "tailors" "I" ∈ wG := wG_of (List.mem_append_right _ (List.mem_append_left _ (List.mem_of_getElem? (i := 191) rfl))) rfl
theorem wd_192 : Cond.fieldLink "SuitByTailors" 245 "SuitByTailors$Plan" "tailors" "I" ∈ wG := wG_of (List.mem_append_right _ (List.mem_append_left _ (List.mem_of_getElem? (i := 192) rfl))) rfl
theorem wd_193 : Cond.fieldLink "SuitByTailors$BoltSearch" 22 "SuitByTailors$Plan" "parts" "I" ∈ wG := wG_of (List.mem_append_right _ (List.mem_append_left _ (List.mem_of_getElem? (i := 193) rfl))) rfl
theorem wd_194 : Cond.fieldLink "SuitByTailors$Plan" 34 "SuitByTailors$Plan" "parts" "I" ∈ wG := wG_of (List.mem_append_right _ (List.mem_append_left _ (List.mem_of_getElem? (i := 194) rfl))) rfl
theorem wd_195 : Cond.fieldLink "SuitByTailors$OrderSearch" 39 "SuitByTailors$Plan" "parts" "I" ∈ wG := wG_of (List.mem_append_right _ (List.mem_append_left _ (List.mem_of_getElem? (i := 195) rfl))) rfl
theorem wd_196 : Cond.fieldLink "SuitByTailors" 108 "SuitByTailors$Plan" "parts" "I" ∈ wG := wG_of (List.mem_append_right _ (List.mem_append_left _ (List.mem_of_getElem? (i := 196) rfl))) rfl
theorem wd_197 : Cond.fieldLink "SuitByTailors$Plan" 37 "SuitByTailors$Plan" "seams" "I" ∈ wG := wG_of (List.mem_append_right _ (List.mem_append_left _ (List.mem_of_getElem? (i := 197) rfl))) rfl
theorem wd_198 : Cond.fieldLink "SuitByTailors$OrderSearch" 67 "SuitByTailors$Plan" "seams" "I" ∈ wG := wG_of (List.mem_append_right _ (List.mem_append_left _ (List.mem_of_getElem? (i := 198) rfl))) rfl
theorem wd_199 : Cond.fieldLink "SuitByTailors" 248 "SuitByTailors$Plan" "seams" "I" ∈ wG := wG_of (List.mem_append_right _ (List.mem_append_left _ (List.mem_of_getElem? (i := 199) rfl))) rfl
theorem wd_200 : Cond.fieldLink "SuitByTailors$Plan" 40 "SuitByTailors$Plan" "widestGap" "I" ∈ wG := wG_of (List.mem_append_right _ (List.mem_append_left _ (List.mem_of_getElem? (i := 200) rfl))) rfl
theorem wd_201 : Cond.fieldLink "SuitByTailors$Plan" 43 "SuitByTailors$Plan" "boy" "I" ∈ wG := wG_of (List.mem_append_right _ (List.mem_append_left _ (List.mem_of_getElem? (i := 201) rfl))) rfl
theorem wd_202 : Cond.fieldLink "SuitByTailors$OrderSearch" 52 "SuitByTailors$Plan" "boy" "I" ∈ wG := wG_of (List.mem_append_right _ (List.mem_append_left _ (List.mem_of_getElem? (i := 202) rfl))) rfl
theorem wd_203 : Cond.fieldLink "SuitByTailors" 251 "SuitByTailors$Plan" "boy" "I" ∈ wG := wG_of (List.mem_append_right _ (List.mem_append_left _ (List.mem_of_getElem? (i := 203) rfl))) rfl
theorem wd_204 : Cond.fieldLink "SuitByTailors$Plan" 46 "SuitByTailors$Plan" "boltLength" "I" ∈ wG := wG_of (List.mem_append_right _ (List.mem_append_left _ (List.mem_of_getElem? (i := 204) rfl))) rfl
theorem wd_205 : Cond.fieldLink "SuitByTailors$BoltSearch" 34 "SuitByTailors$Plan" "boltLength" "I" ∈ wG := wG_of (List.mem_append_right _ (List.mem_append_left _ (List.mem_of_getElem? (i := 205) rfl))) rfl
theorem wd_206 : Cond.laysFinal "SuitByTailors$Plan" "SuitByTailors$Plan" "inches" "[I" ∈ wG := wG_of (List.mem_append_right _ (List.mem_append_left _ (List.mem_of_getElem? (i := 206) rfl))) rfl
theorem wd_208 : Cond.laysFinal "SuitByTailors$Plan" "SuitByTailors$Plan" "tailorOf" "[I" ∈ wG := wG_of (List.mem_append_right _ (List.mem_append_left _ (List.mem_of_getElem? (i := 208) rfl))) rfl
theorem wd_210 : Cond.laysFinal "SuitByTailors$Plan" "SuitByTailors$Plan" "lengthOf" "[I" ∈ wG := wG_of (List.mem_append_right _ (List.mem_append_left _ (List.mem_of_getElem? (i := 210) rfl))) rfl
theorem wd_212 : Cond.laysFinal "SuitByTailors$Plan" "SuitByTailors$Plan" "bribeFor" "[I" ∈ wG := wG_of (List.mem_append_right _ (List.mem_append_left _ (List.mem_of_getElem? (i := 212) rfl))) rfl
theorem wd_214 : Cond.laysFinal "SuitByTailors$Plan" "SuitByTailors$Plan" "firstOf" "[I" ∈ wG := wG_of (List.mem_append_right _ (List.mem_append_left _ (List.mem_of_getElem? (i := 214) rfl))) rfl
theorem wd_216 : Cond.laysFinal "SuitByTailors$Plan" "SuitByTailors$Plan" "secondOf" "[I" ∈ wG := wG_of (List.mem_append_right _ (List.mem_append_left _ (List.mem_of_getElem? (i := 216) rfl))) rfl
theorem wd_218 : Cond.lays "SuitByTailors$Plan" "SuitByTailors$Plan" "tailors" "I" ∈ wG := wG_of (List.mem_append_right _ (List.mem_append_left _ (List.mem_of_getElem? (i := 218) rfl))) rfl
theorem wd_220 : Cond.lays "SuitByTailors$Plan" "SuitByTailors$Plan" "parts" "I" ∈ wG := wG_of (List.mem_append_right _ (List.mem_append_left _ (List.mem_of_getElem? (i := 220) rfl))) rfl
theorem wd_222 : Cond.lays "SuitByTailors$Plan" "SuitByTailors$Plan" "seams" "I" ∈ wG := wG_of (List.mem_append_right _ (List.mem_append_left _ (List.mem_of_getElem? (i := 222) rfl))) rfl
theorem wd_224 : Cond.lays "SuitByTailors$Plan" "SuitByTailors$Plan" "widestGap" "I" ∈ wG := wG_of (List.mem_append_right _ (List.mem_append_left _ (List.mem_of_getElem? (i := 224) rfl))) rfl
theorem wd_226 : Cond.lays "SuitByTailors$Plan" "SuitByTailors$Plan" "boy" "I" ∈ wG := wG_of (List.mem_append_right _ (List.mem_append_left _ (List.mem_of_getElem? (i := 226) rfl))) rfl
theorem wd_228 : Cond.lays "SuitByTailors$Plan" "SuitByTailors$Plan" "boltLength" "I" ∈ wG := wG_of (List.mem_append_right _ (List.mem_append_left _ (List.mem_of_getElem? (i := 228) rfl))) rfl
theorem wd_232 : Cond.methodLink "SuitByTailors" 88 ⟨"java/lang/String", "length", "()I"⟩ ∈ wG := wG_of (List.mem_append_right _ (List.mem_append_left _ (List.mem_of_getElem? (i := 232) rfl))) rfl
theorem wd_233 : Cond.instanceMethod ⟨"java/lang/String", "length", "()I"⟩ ∈ wG := wG_of (List.mem_append_right _ (List.mem_append_left _ (List.mem_of_getElem? (i := 233) rfl))) rfl
theorem wd_234 : Cond.selects "java/lang/String" ⟨"java/lang/String", "length", "()I"⟩ ⟨"java/lang/String", "length", "()I"⟩ ∈ wG := wG_of (List.mem_append_right _ (List.mem_append_left _ (List.mem_of_getElem? (i := 234) rfl))) rfl
theorem wd_235 : Cond.code ⟨"java/lang/String", "length", "()I"⟩ prog_13_method_54_code 1 (some .int) ∈ wG := wG_of (List.mem_append_right _ (List.mem_append_left _ (List.mem_of_getElem? (i := 235) rfl))) rfl
theorem wd_236 : Cond.methodLink "java/lang/String" 335 ⟨"java/lang/String", "coder", "()B"⟩ ∈ wG := wG_of (List.mem_append_right _ (List.mem_append_left _ (List.mem_of_getElem? (i := 236) rfl))) rfl
theorem wd_237 : Cond.instanceMethod ⟨"java/lang/String", "coder", "()B"⟩ ∈ wG := wG_of (List.mem_append_right _ (List.mem_append_left _ (List.mem_of_getElem? (i := 237) rfl))) rfl
theorem wd_238 : Cond.selects "java/lang/String" ⟨"java/lang/String", "coder", "()B"⟩ ⟨"java/lang/String", "coder", "()B"⟩ ∈ wG := wG_of (List.mem_append_right _ (List.mem_append_left _ (List.mem_of_getElem? (i := 238) rfl))) rfl
theorem wd_239 : Cond.code ⟨"java/lang/String", "coder", "()B"⟩ prog_13_method_152_code 1 (some .byte) ∈ wG := wG_of (List.mem_append_right _ (List.mem_append_left _ (List.mem_of_getElem? (i := 239) rfl))) rfl
theorem wd_240 : Cond.fieldLink "java/lang/String" 38 "java/lang/String" "COMPACT_STRINGS" "Z" ∈ wG := wG_of (List.mem_append_right _ (List.mem_append_right _ (List.mem_append_left _ (List.mem_of_getElem? (i := 0) rfl)))) rfl
theorem wd_242 : Cond.methodLink "SuitByTailors" 94 ⟨"java/lang/String", "charAt", "(I)C"⟩ ∈ wG := wG_of (List.mem_append_right _ (List.mem_append_right _ (List.mem_append_left _ (List.mem_of_getElem? (i := 2) rfl)))) rfl
theorem wd_243 : Cond.instanceMethod ⟨"java/lang/String", "charAt", "(I)C"⟩ ∈ wG := wG_of (List.mem_append_right _ (List.mem_append_right _ (List.mem_append_left _ (List.mem_of_getElem? (i := 3) rfl)))) rfl
theorem wd_244 : Cond.selects "java/lang/String" ⟨"java/lang/String", "charAt", "(I)C"⟩ ⟨"java/lang/String", "charAt", "(I)C"⟩ ∈ wG := wG_of (List.mem_append_right _ (List.mem_append_right _ (List.mem_append_left _ (List.mem_of_getElem? (i := 4) rfl)))) rfl
theorem wd_245 : Cond.code ⟨"java/lang/String", "charAt", "(I)C"⟩ prog_13_method_56_code 2 (some .char) ∈ wG := wG_of (List.mem_append_right _ (List.mem_append_right _ (List.mem_append_left _ (List.mem_of_getElem? (i := 5) rfl)))) rfl
theorem wd_246 : Cond.methodLink "java/lang/String" 492 ⟨"java/lang/String", "isLatin1", "()Z"⟩ ∈ wG := wG_of (List.mem_append_right _ (List.mem_append_right _ (List.mem_append_left _ (List.mem_of_getElem? (i := 6) rfl)))) rfl
theorem wd_247 : Cond.instanceMethod ⟨"java/lang/String", "isLatin1", "()Z"⟩ ∈ wG := wG_of (List.mem_append_right _ (List.mem_append_right _ (List.mem_append_left _ (List.mem_of_getElem? (i := 7) rfl)))) rfl
theorem wd_248 : Cond.selects "java/lang/String" ⟨"java/lang/String", "isLatin1", "()Z"⟩ ⟨"java/lang/String", "isLatin1", "()Z"⟩ ∈ wG := wG_of (List.mem_append_right _ (List.mem_append_right _ (List.mem_append_left _ (List.mem_of_getElem? (i := 8) rfl)))) rfl
theorem wd_249 : Cond.code ⟨"java/lang/String", "isLatin1", "()Z"⟩ prog_13_method_154_code 1 (some .boolean) ∈ wG := wG_of (List.mem_append_right _ (List.mem_append_right _ (List.mem_append_left _ (List.mem_of_getElem? (i := 9) rfl)))) rfl
theorem wd_250 : Cond.methodLink "java/lang/String" 495 ⟨"java/lang/StringLatin1", "charAt", "([BI)C"⟩ ∈ wG := wG_of (List.mem_append_right _ (List.mem_append_right _ (List.mem_append_left _ (List.mem_of_getElem? (i := 10) rfl)))) rfl
theorem wd_251 : Cond.static ⟨"java/lang/StringLatin1", "charAt", "([BI)C"⟩ ∈ wG := wG_of (List.mem_append_right _ (List.mem_append_right _ (List.mem_append_left _ (List.mem_of_getElem? (i := 11) rfl)))) rfl
theorem wd_252 : Cond.code ⟨"java/lang/StringLatin1", "charAt", "([BI)C"⟩ prog_14_method_2_code 2 (some .char) ∈ wG := wG_of (List.mem_append_right _ (List.mem_append_right _ (List.mem_append_left _ (List.mem_of_getElem? (i := 12) rfl)))) rfl
theorem wd_253 : Cond.methodLink "java/lang/StringLatin1" 9 ⟨"java/lang/String", "checkIndex", "(II)V"⟩ ∈ wG := wG_of (List.mem_append_right _ (List.mem_append_right _ (List.mem_append_left _ (List.mem_of_getElem? (i := 13) rfl)))) rfl
theorem wd_254 : Cond.static ⟨"java/lang/String", "checkIndex", "(II)V"⟩ ∈ wG := wG_of (List.mem_append_right _ (List.mem_append_right _ (List.mem_append_left _ (List.mem_of_getElem? (i := 14) rfl)))) rfl
theorem wd_255 : Cond.code ⟨"java/lang/String", "checkIndex", "(II)V"⟩ prog_13_method_155_code 2 none ∈ wG := wG_of (List.mem_append_right _ (List.mem_append_right _ (List.mem_append_left _ (List.mem_of_getElem? (i := 15) rfl)))) rfl
theorem wd_256 : Cond.fieldLink "java/lang/String" 1053 "jdk/internal/util/Preconditions" "SIOOBE_FORMATTER" "Ljava/util/function/BiFunction;" ∈ wG := wG_of (List.mem_append_right _ (List.mem_append_right _ (List.mem_append_left _ (List.mem_of_getElem? (i := 16) rfl)))) rfl
theorem wd_258 : Cond.methodLink "java/lang/String" 1059 ⟨"jdk/internal/util/Preconditions", "checkIndex", "(IILjava/util/function/BiFunction;)I"⟩ ∈ wG := wG_of (List.mem_append_right _ (List.mem_append_right _ (List.mem_append_left _ (List.mem_of_getElem? (i := 18) rfl)))) rfl
theorem wd_259 : Cond.static ⟨"jdk/internal/util/Preconditions", "checkIndex", "(IILjava/util/function/BiFunction;)I"⟩ ∈ wG := wG_of (List.mem_append_right _ (List.mem_append_right _ (List.mem_append_left _ (List.mem_of_getElem? (i := 19) rfl)))) rfl
theorem wd_260 : Cond.code ⟨"jdk/internal/util/Preconditions", "checkIndex", "(IILjava/util/function/BiFunction;)I"⟩ prog_16_method_11_code 3 (some .int) ∈ wG := wG_of (List.mem_append_right _ (List.mem_append_right _ (List.mem_append_left _ (List.mem_of_getElem? (i := 20) rfl)))) rfl
theorem wd_261 : Cond.methodLink "java/lang/String" 498 ⟨"java/lang/StringUTF16", "charAt", "([BI)C"⟩ ∈ wG := wG_of (List.mem_append_right _ (List.mem_append_right _ (List.mem_append_left _ (List.mem_of_getElem? (i := 21) rfl)))) rfl
theorem wd_262 : Cond.static ⟨"java/lang/StringUTF16", "charAt", "([BI)C"⟩ ∈ wG := wG_of (List.mem_append_right _ (List.mem_append_right _ (List.mem_append_left _ (List.mem_of_getElem? (i := 22) rfl)))) rfl
theorem wd_263 : Cond.code ⟨"java/lang/StringUTF16", "charAt", "([BI)C"⟩ prog_15_method_83_code 2 (some .char) ∈ wG := wG_of (List.mem_append_right _ (List.mem_append_right _ (List.mem_append_left _ (List.mem_of_getElem? (i := 23) rfl)))) rfl
theorem wd_264 : Cond.methodLink "java/lang/StringUTF16" 67 ⟨"java/lang/StringUTF16", "checkIndex", "(I[B)V"⟩ ∈ wG := wG_of (List.mem_append_right _ (List.mem_append_right _ (List.mem_append_left _ (List.mem_of_getElem? (i := 24) rfl)))) rfl
theorem wd_265 : Cond.static ⟨"java/lang/StringUTF16", "checkIndex", "(I[B)V"⟩ ∈ wG := wG_of (List.mem_append_right _ (List.mem_append_right _ (List.mem_append_left _ (List.mem_of_getElem? (i := 25) rfl)))) rfl
theorem wd_266 : Cond.code ⟨"java/lang/StringUTF16", "checkIndex", "(I[B)V"⟩ prog_15_method_91_code 2 none ∈ wG := wG_of (List.mem_append_right _ (List.mem_append_right _ (List.mem_append_left _ (List.mem_of_getElem? (i := 26) rfl)))) rfl
theorem wd_267 : Cond.methodLink "java/lang/StringUTF16" 48 ⟨"java/lang/StringUTF16", "length", "([B)I"⟩ ∈ wG := wG_of (List.mem_append_right _ (List.mem_append_right _ (List.mem_append_left _ (List.mem_of_getElem? (i := 27) rfl)))) rfl
theorem wd_268 : Cond.static ⟨"java/lang/StringUTF16", "length", "([B)I"⟩ ∈ wG := wG_of (List.mem_append_right _ (List.mem_append_right _ (List.mem_append_left _ (List.mem_of_getElem? (i := 28) rfl)))) rfl
theorem wd_269 : Cond.code ⟨"java/lang/StringUTF16", "length", "([B)I"⟩ prog_15_method_6_code 1 (some .int) ∈ wG := wG_of (List.mem_append_right _ (List.mem_append_right _ (List.mem_append_left _ (List.mem_of_getElem? (i := 29) rfl)))) rfl
theorem wd_270 : Cond.methodLink "java/lang/StringUTF16" 414 ⟨"java/lang/String", "checkIndex", "(II)V"⟩ ∈ wG := wG_of (List.mem_append_right _ (List.mem_append_right _ (List.mem_append_left _ (List.mem_of_getElem? (i := 30) rfl)))) rfl
theorem wd_271 : Cond.methodLink "java/lang/StringUTF16" 71 ⟨"java/lang/StringUTF16", "getChar", "([BI)C"⟩ ∈ wG := wG_of (List.mem_append_right _ (List.mem_append_right _ (List.mem_append_left _ (List.mem_of_getElem? (i := 31) rfl)))) rfl
theorem wd_272 : Cond.static ⟨"java/lang/StringUTF16", "getChar", "([BI)C"⟩ ∈ wG := wG_of (List.mem_append_right _ (List.mem_append_right _ (List.mem_append_left _ (List.mem_of_getElem? (i := 32) rfl)))) rfl
theorem wd_273 : Cond.code ⟨"java/lang/StringUTF16", "getChar", "([BI)C"⟩ prog_15_method_5_code 2 (some .char) ∈ wG := wG_of (List.mem_append_right _ (List.mem_append_right _ (List.mem_append_left _ (List.mem_of_getElem? (i := 33) rfl)))) rfl
theorem wd_274 : Cond.fieldLink "java/lang/StringUTF16" 44 "java/lang/StringUTF16" "$assertionsDisabled" "Z" ∈ wG := wG_of (List.mem_append_right _ (List.mem_append_right _ (List.mem_append_left _ (List.mem_of_getElem? (i := 34) rfl)))) rfl
theorem wd_276 : Cond.fieldLink "java/lang/StringUTF16" 59 "java/lang/StringUTF16" "HI_BYTE_SHIFT" "I" ∈ wG := wG_of (List.mem_append_right _ (List.mem_append_right _ (List.mem_append_left _ (List.mem_of_getElem? (i := 36) rfl)))) rfl
theorem wd_278 : Cond.fieldLink "java/lang/StringUTF16" 63 "java/lang/StringUTF16" "LO_BYTE_SHIFT" "I" ∈ wG := wG_of (List.mem_append_right _ (List.mem_append_right _ (List.mem_append_left _ (List.mem_of_getElem? (i := 38) rfl)))) rfl
theorem wd_280 : Cond.methodLink "SuitByTailors" 98 ⟨"SuitByTailors$Text", "append", "(I)V"⟩ ∈ wG := wG_of (List.mem_append_right _ (List.mem_append_right _ (List.mem_append_left _ (List.mem_of_getElem? (i := 40) rfl)))) rfl
theorem wd_281 : Cond.instanceMethod ⟨"SuitByTailors$Text", "append", "(I)V"⟩ ∈ wG := wG_of (List.mem_append_right _ (List.mem_append_right _ (List.mem_append_left _ (List.mem_of_getElem? (i := 41) rfl)))) rfl
theorem wd_282 : Cond.selects "SuitByTailors$Text" ⟨"SuitByTailors$Text", "append", "(I)V"⟩ ⟨"SuitByTailors$Text", "append", "(I)V"⟩ ∈ wG := wG_of (List.mem_append_right _ (List.mem_append_right _ (List.mem_append_left _ (List.mem_of_getElem? (i := 42) rfl)))) rfl
theorem wd_283 : Cond.code ⟨"SuitByTailors$Text", "append", "(I)V"⟩ prog_9_method_2_code 2 none ∈ wG := wG_of (List.mem_append_right _ (List.mem_append_right _ (List.mem_append_left _ (List.mem_of_getElem? (i := 43) rfl)))) rfl
theorem wd_284 : Cond.methodLink "SuitByTailors" 101 ⟨"SuitByTailors$Text", "readInto", "(LSuitByTailors$Plan;)I"⟩ ∈ wG := wG_of (List.mem_append_right _ (List.mem_append_right _ (List.mem_append_left _ (List.mem_of_getElem? (i := 44) rfl)))) rfl
theorem wd_285 : Cond.instanceMethod ⟨"SuitByTailors$Text", "readInto", "(LSuitByTailors$Plan;)I"⟩ ∈ wG := wG_of (List.mem_append_right _ (List.mem_append_right _ (List.mem_append_left _ (List.mem_of_getElem? (i := 45) rfl)))) rfl
theorem wd_286 : Cond.selects "SuitByTailors$Text" ⟨"SuitByTailors$Text", "readInto", "(LSuitByTailors$Plan;)I"⟩ ⟨"SuitByTailors$Text", "readInto", "(LSuitByTailors$Plan;)I"⟩ ∈ wG := wG_of (List.mem_append_right _ (List.mem_append_right _ (List.mem_append_left _ (List.mem_of_getElem? (i := 46) rfl)))) rfl
theorem wd_287 : Cond.code ⟨"SuitByTailors$Text", "readInto", "(LSuitByTailors$Plan;)I"⟩ prog_9_method_3_code 6 (some .int) ∈ wG := wG_of (List.mem_append_right _ (List.mem_append_right _ (List.mem_append_left _ (List.mem_of_getElem? (i := 47) rfl)))) rfl
theorem wd_288 : Cond.methodLink "SuitByTailors$Text" 23 ⟨"SuitByTailors$Plan", "clear", "()V"⟩ ∈ wG := wG_of (List.mem_append_right _ (List.mem_append_right _ (List.mem_append_left _ (List.mem_of_getElem? (i := 48) rfl)))) rfl
theorem wd_289 : Cond.instanceMethod ⟨"SuitByTailors$Plan", "clear", "()V"⟩ ∈ wG := wG_of (List.mem_append_right _ (List.mem_append_right _ (List.mem_append_left _ (List.mem_of_getElem? (i := 49) rfl)))) rfl
theorem wd_290 : Cond.selects "SuitByTailors$Plan" ⟨"SuitByTailors$Plan", "clear", "()V"⟩ ⟨"SuitByTailors$Plan", "clear", "()V"⟩ ∈ wG := wG_of (List.mem_append_right _ (List.mem_append_right _ (List.mem_append_left _ (List.mem_of_getElem? (i := 50) rfl)))) rfl
theorem wd_291 : Cond.code ⟨"SuitByTailors$Plan", "clear", "()V"⟩ prog_7_method_2_code 1 none ∈ wG := wG_of (List.mem_append_right _ (List.mem_append_right _ (List.mem_append_left _ (List.mem_of_getElem? (i := 51) rfl)))) rfl
theorem wd_292 : Cond.methodLink "SuitByTailors$Text" 28 ⟨"SuitByTailors$Text", "byteAt", "(I)I"⟩ ∈ wG := wG_of (List.mem_append_right _ (List.mem_append_right _ (List.mem_append_left _ (List.mem_of_getElem? (i := 52) rfl)))) rfl
theorem wd_294 : Cond.instanceMethod ⟨"SuitByTailors$Text", "byteAt", "(I)I"⟩ ∈ wG := wG_of (List.mem_append_right _ (List.mem_append_right _ (List.mem_append_left _ (List.mem_of_getElem? (i := 54) rfl)))) rfl
theorem wd_295 : Cond.code ⟨"SuitByTailors$Text", "byteAt", "(I)I"⟩ prog_9_method_7_code 2 (some .int) ∈ wG := wG_of (List.mem_append_right _ (List.mem_append_right _ (List.mem_append_left _ (List.mem_of_getElem? (i := 55) rfl)))) rfl
theorem wd_296 : Cond.methodLink "SuitByTailors$Text" 32 ⟨"SuitByTailors$Text", "numbersBehind", "(I)I"⟩ ∈ wG := wG_of (List.mem_append_right _ (List.mem_append_right _ (List.mem_append_left _ (List.mem_of_getElem? (i := 56) rfl)))) rfl
theorem wd_297 : Cond.static ⟨"SuitByTailors$Text", "numbersBehind", "(I)I"⟩ ∈ wG := wG_of (List.mem_append_right _ (List.mem_append_right _ (List.mem_append_left _ (List.mem_of_getElem? (i := 57) rfl)))) rfl
theorem wd_298 : Cond.code ⟨"SuitByTailors$Text", "numbersBehind", "(I)I"⟩ prog_9_method_4_code 1 (some .int) ∈ wG := wG_of (List.mem_append_right _ (List.mem_append_right _ (List.mem_append_left _ (List.mem_of_getElem? (i := 58) rfl)))) rfl
theorem wd_299 : Cond.methodLink "SuitByTailors$Text" 35 ⟨"SuitByTailors$Text", "readItem", "(II)I"⟩ ∈ wG := wG_of (List.mem_append_right _ (List.mem_append_right _ (List.mem_append_left _ (List.mem_of_getElem? (i := 59) rfl)))) rfl
theorem wd_301 : Cond.instanceMethod ⟨"SuitByTailors$Text", "readItem", "(II)I"⟩ ∈ wG := wG_of (List.mem_append_right _ (List.mem_append_right _ (List.mem_append_left _ (List.mem_of_getElem? (i := 61) rfl)))) rfl
theorem wd_302 : Cond.code ⟨"SuitByTailors$Text", "readItem", "(II)I"⟩ prog_9_method_5_code 5 (some .int) ∈ wG := wG_of (List.mem_append_right _ (List.mem_append_right _ (List.mem_append_left _ (List.mem_of_getElem? (i := 62) rfl)))) rfl
theorem wd_303 : Cond.methodLink "SuitByTailors$Text" 43 ⟨"SuitByTailors$Text", "readNumber", "(II)I"⟩ ∈ wG := wG_of (List.mem_append_right _ (List.mem_append_right _ (List.mem_append_left _ (List.mem_of_getElem? (i := 63) rfl)))) rfl
theorem wd_305 : Cond.instanceMethod ⟨"SuitByTailors$Text", "readNumber", "(II)I"⟩ ∈ wG := wG_of (List.mem_append_right _ (List.mem_append_right _ (List.mem_append_left _ (List.mem_of_getElem? (i := 65) rfl)))) rfl
theorem wd_306 : Cond.code ⟨"SuitByTailors$Text", "readNumber", "(II)I"⟩ prog_9_method_6_code 5 (some .int) ∈ wG := wG_of (List.mem_append_right _ (List.mem_append_right _ (List.mem_append_left _ (List.mem_of_getElem? (i := 66) rfl)))) rfl
theorem wd_307 : Cond.methodLink "SuitByTailors$Text" 39 ⟨"SuitByTailors$Plan", "takes", "(I[I)Z"⟩ ∈ wG := wG_of (List.mem_append_right _ (List.mem_append_right _ (List.mem_append_left _ (List.mem_of_getElem? (i := 67) rfl)))) rfl
theorem wd_308 : Cond.instanceMethod ⟨"SuitByTailors$Plan", "takes", "(I[I)Z"⟩ ∈ wG := wG_of (List.mem_append_right _ (List.mem_append_right _ (List.mem_append_left _ (List.mem_of_getElem? (i := 68) rfl)))) rfl
theorem wd_309 : Cond.selects "SuitByTailors$Plan" ⟨"SuitByTailors$Plan", "takes", "(I[I)Z"⟩ ⟨"SuitByTailors$Plan", "takes", "(I[I)Z"⟩ ∈ wG := wG_of (List.mem_append_right _ (List.mem_append_right _ (List.mem_append_left _ (List.mem_of_getElem? (i := 69) rfl)))) rfl
theorem wd_310 : Cond.code ⟨"SuitByTailors$Plan", "takes", "(I[I)Z"⟩ prog_7_method_6_code 3 (some .boolean) ∈ wG := wG_of (List.mem_append_right _ (List.mem_append_right _ (List.mem_append_left _ (List.mem_of_getElem? (i := 70) rfl)))) rfl
theorem wd_311 : Cond.methodLink "SuitByTailors$Plan" 49 ⟨"SuitByTailors$Plan", "takesTailor", "(I)Z"⟩ ∈ wG := wG_of (List.mem_append_right _ (List.mem_append_right _ (List.mem_append_left _ (List.mem_of_getElem? (i := 71) rfl)))) rfl
theorem wd_313 : Cond.instanceMethod ⟨"SuitByTailors$Plan", "takesTailor", "(I)Z"⟩ ∈ wG := wG_of (List.mem_append_right _ (List.mem_append_right _ (List.mem_append_left _ (List.mem_of_getElem? (i := 73) rfl)))) rfl
theorem wd_314 : Cond.code ⟨"SuitByTailors$Plan", "takesTailor", "(I)Z"⟩ prog_7_method_7_code 2 (some .boolean) ∈ wG := wG_of (List.mem_append_right _ (List.mem_append_right _ (List.mem_append_left _ (List.mem_of_getElem? (i := 74) rfl)))) rfl
theorem wd_315 : Cond.methodLink "SuitByTailors$Plan" 53 ⟨"SuitByTailors$Plan", "takesPart", "(III)Z"⟩ ∈ wG := wG_of (List.mem_append_right _ (List.mem_append_right _ (List.mem_append_left _ (List.mem_of_getElem? (i := 75) rfl)))) rfl
theorem wd_317 : Cond.instanceMethod ⟨"SuitByTailors$Plan", "takesPart", "(III)Z"⟩ ∈ wG := wG_of (List.mem_append_right _ (List.mem_append_right _ (List.mem_append_left _ (List.mem_of_getElem? (i := 77) rfl)))) rfl
theorem wd_318 : Cond.code ⟨"SuitByTailors$Plan", "takesPart", "(III)Z"⟩ prog_7_method_8_code 4 (some .boolean) ∈ wG := wG_of (List.mem_append_right _ (List.mem_append_right _ (List.mem_append_left _ (List.mem_of_getElem? (i := 78) rfl)))) rfl
theorem wd_319 : Cond.methodLink "SuitByTailors$Plan" 70 ⟨"SuitByTailors$Plan", "hasTailor", "(I)Z"⟩ ∈ wG := wG_of (List.mem_append_right _ (List.mem_append_right _ (List.mem_append_left _ (List.mem_of_getElem? (i := 79) rfl)))) rfl
theorem wd_320 : Cond.instanceMethod ⟨"SuitByTailors$Plan", "hasTailor", "(I)Z"⟩ ∈ wG := wG_of (List.mem_append_right _ (List.mem_append_right _ (List.mem_append_left _ (List.mem_of_getElem? (i := 80) rfl)))) rfl
theorem wd_321 : Cond.selects "SuitByTailors$Plan" ⟨"SuitByTailors$Plan", "hasTailor", "(I)Z"⟩ ⟨"SuitByTailors$Plan", "hasTailor", "(I)Z"⟩ ∈ wG := wG_of (List.mem_append_right _ (List.mem_append_right _ (List.mem_append_left _ (List.mem_of_getElem? (i := 81) rfl)))) rfl
theorem wd_322 : Cond.code ⟨"SuitByTailors$Plan", "hasTailor", "(I)Z"⟩ prog_7_method_3_code 2 (some .boolean) ∈ wG := wG_of (List.mem_append_right _ (List.mem_append_right _ (List.mem_append_left _ (List.mem_of_getElem? (i := 82) rfl)))) rfl
theorem wd_323 : Cond.methodLink "SuitByTailors$Plan" 57 ⟨"SuitByTailors$Plan", "takesSeam", "(II)Z"⟩ ∈ wG := wG_of (List.mem_append_right _ (List.mem_append_right _ (List.mem_append_left _ (List.mem_of_getElem? (i := 83) rfl)))) rfl
theorem wd_325 : Cond.instanceMethod ⟨"SuitByTailors$Plan", "takesSeam", "(II)Z"⟩ ∈ wG := wG_of (List.mem_append_right _ (List.mem_append_right _ (List.mem_append_left _ (List.mem_of_getElem? (i := 85) rfl)))) rfl
theorem wd_326 : Cond.code ⟨"SuitByTailors$Plan", "takesSeam", "(II)Z"⟩ prog_7_method_9_code 3 (some .boolean) ∈ wG := wG_of (List.mem_append_right _ (List.mem_append_right _ (List.mem_append_left _ (List.mem_of_getElem? (i := 86) rfl)))) rfl
theorem wd_327 : Cond.methodLink "SuitByTailors$Plan" 73 ⟨"SuitByTailors$Plan", "hasPart", "(I)Z"⟩ ∈ wG := wG_of (List.mem_append_right _ (List.mem_append_right _ (List.mem_append_left _ (List.mem_of_getElem? (i := 87) rfl)))) rfl
theorem wd_328 : Cond.instanceMethod ⟨"SuitByTailors$Plan", "hasPart", "(I)Z"⟩ ∈ wG := wG_of (List.mem_append_right _ (List.mem_append_right _ (List.mem_append_left _ (List.mem_of_getElem? (i := 88) rfl)))) rfl
theorem wd_329 : Cond.selects "SuitByTailors$Plan" ⟨"SuitByTailors$Plan", "hasPart", "(I)Z"⟩ ⟨"SuitByTailors$Plan", "hasPart", "(I)Z"⟩ ∈ wG := wG_of (List.mem_append_right _ (List.mem_append_right _ (List.mem_append_left _ (List.mem_of_getElem? (i := 89) rfl)))) rfl
theorem wd_330 : Cond.code ⟨"SuitByTailors$Plan", "hasPart", "(I)Z"⟩ prog_7_method_4_code 2 (some .boolean) ∈ wG := wG_of (List.mem_append_right _ (List.mem_append_right _ (List.mem_append_left _ (List.mem_of_getElem? (i := 90) rfl)))) rfl
theorem wd_331 : Cond.methodLink "SuitByTailors$Plan" 61 ⟨"SuitByTailors$Plan", "takesGap", "(I)Z"⟩ ∈ wG := wG_of (List.mem_append_right _ (List.mem_append_right _ (List.mem_append_left _ (List.mem_of_getElem? (i := 91) rfl)))) rfl
theorem wd_333 : Cond.instanceMethod ⟨"SuitByTailors$Plan", "takesGap", "(I)Z"⟩ ∈ wG := wG_of (List.mem_append_right _ (List.mem_append_right _ (List.mem_append_left _ (List.mem_of_getElem? (i := 93) rfl)))) rfl
theorem wd_334 : Cond.code ⟨"SuitByTailors$Plan", "takesGap", "(I)Z"⟩ prog_7_method_10_code 2 (some .boolean) ∈ wG := wG_of (List.mem_append_right _ (List.mem_append_right _ (List.mem_append_left _ (List.mem_of_getElem? (i := 94) rfl)))) rfl
theorem wd_335 : Cond.methodLink "SuitByTailors$Plan" 64 ⟨"SuitByTailors$Plan", "takesBoy", "(I)Z"⟩ ∈ wG := wG_of (List.mem_append_right _ (List.mem_append_right _ (List.mem_append_left _ (List.mem_of_getElem? (i := 95) rfl)))) rfl
theorem wd_337 : Cond.instanceMethod ⟨"SuitByTailors$Plan", "takesBoy", "(I)Z"⟩ ∈ wG := wG_of (List.mem_append_right _ (List.mem_append_right _ (List.mem_append_left _ (List.mem_of_getElem? (i := 97) rfl)))) rfl
theorem wd_338 : Cond.code ⟨"SuitByTailors$Plan", "takesBoy", "(I)Z"⟩ prog_7_method_11_code 2 (some .boolean) ∈ wG := wG_of (List.mem_append_right _ (List.mem_append_right _ (List.mem_append_left _ (List.mem_of_getElem? (i := 98) rfl)))) rfl
theorem wd_339 : Cond.methodLink "SuitByTailors$Plan" 67 ⟨"SuitByTailors$Plan", "takesBolt", "(I)Z"⟩ ∈ wG := wG_of (List.mem_append_right _ (List.mem_append_right _ (List.mem_append_left _ (List.mem_of_getElem? (i := 99) rfl)))) rfl
theorem wd_341 : Cond.instanceMethod ⟨"SuitByTailors$Plan", "takesBolt", "(I)Z"⟩ ∈ wG := wG_of (List.mem_append_right _ (List.mem_append_right _ (List.mem_append_left _ (List.mem_of_getElem? (i := 101) rfl)))) rfl
theorem wd_342 : Cond.code ⟨"SuitByTailors$Plan", "takesBolt", "(I)Z"⟩ prog_7_method_12_code 2 (some .boolean) ∈ wG := wG_of (List.mem_append_right _ (List.mem_append_right _ (List.mem_append_left _ (List.mem_of_getElem? (i := 102) rfl)))) rfl
theorem wd_343 : Cond.fieldLink "SuitByTailors" 10 "SuitByTailors" "text" "LSuitByTailors$Text;" ∈ wG := wG_of (List.mem_append_right _ (List.mem_append_right _ (List.mem_append_left _ (List.mem_of_getElem? (i := 103) rfl)))) rfl
theorem wd_344 : Cond.fieldLink "SuitByTailors" 19 "SuitByTailors" "fitting" "LSuitByTailors$Fitting;" ∈ wG := wG_of (List.mem_append_right _ (List.mem_append_right _ (List.mem_append_left _ (List.mem_of_getElem? (i := 104) rfl)))) rfl
theorem wd_345 : Cond.fieldLink "SuitByTailors" 28 "SuitByTailors" "undoable" "LSuitByTailors$FittingStack;" ∈ wG := wG_of (List.mem_append_right _ (List.mem_append_right _ (List.mem_append_left _ (List.mem_of_getElem? (i := 105) rfl)))) rfl
theorem wd_346 : Cond.fieldLink "SuitByTailors" 32 "SuitByTailors" "kept" "LSuitByTailors$FittingStack;" ∈ wG := wG_of (List.mem_append_right _ (List.mem_append_right _ (List.mem_append_left _ (List.mem_of_getElem? (i := 106) rfl)))) rfl
theorem wd_347 : Cond.fieldLink "SuitByTailors" 38 "SuitByTailors" "sightings" "LSuitByTailors$Sightings;" ∈ wG := wG_of (List.mem_append_right _ (List.mem_append_right _ (List.mem_append_left _ (List.mem_of_getElem? (i := 107) rfl)))) rfl
theorem wd_348 : Cond.fieldLink "SuitByTailors" 45 "SuitByTailors" "pins" "LSuitByTailors$Pins;" ∈ wG := wG_of (List.mem_append_right _ (List.mem_append_right _ (List.mem_append_left _ (List.mem_of_getElem? (i := 108) rfl)))) rfl
theorem wd_349 : Cond.fieldLink "SuitByTailors" 52 "SuitByTailors" "orderSearch" "LSuitByTailors$OrderSearch;" ∈ wG := wG_of (List.mem_append_right _ (List.mem_append_right _ (List.mem_append_left _ (List.mem_of_getElem? (i := 109) rfl)))) rfl
theorem wd_350 : Cond.fieldLink "SuitByTailors" 59 "SuitByTailors" "boltSearch" "LSuitByTailors$BoltSearch;" ∈ wG := wG_of (List.mem_append_right _ (List.mem_append_right _ (List.mem_append_left _ (List.mem_of_getElem? (i := 110) rfl)))) rfl
theorem wd_351 : Cond.fieldLink "SuitByTailors" 63 "SuitByTailors" "lengths" "[I" ∈ wG := wG_of (List.mem_append_right _ (List.mem_append_right _ (List.mem_append_left _ (List.mem_of_getElem? (i := 111) rfl)))) rfl
theorem wd_352 : Cond.fieldLink "SuitByTailors" 67 "SuitByTailors" "toldTrue" "[I" ∈ wG := wG_of (List.mem_append_right _ (List.mem_append_right _ (List.mem_append_left _ (List.mem_of_getElem? (i := 112) rfl)))) rfl
theorem wd_353 : Cond.fieldLink "SuitByTailors" 70 "SuitByTailors" "toldByBoy" "[I" ∈ wG := wG_of (List.mem_append_right _ (List.mem_append_right _ (List.mem_append_left _ (List.mem_of_getElem? (i := 113) rfl)))) rfl
theorem wd_354 : Cond.fieldLink "SuitByTailors" 73 "SuitByTailors" "shortest" "[I" ∈ wG := wG_of (List.mem_append_right _ (List.mem_append_right _ (List.mem_append_left _ (List.mem_of_getElem? (i := 114) rfl)))) rfl
theorem wd_355 : Cond.fieldLink "SuitByTailors" 79 "SuitByTailors" "plan" "LSuitByTailors$Plan;" ∈ wG := wG_of (List.mem_append_right _ (List.mem_append_right _ (List.mem_append_left _ (List.mem_of_getElem? (i := 115) rfl)))) rfl
theorem wd_356 : Cond.fieldLink "SuitByTailors" 83 "SuitByTailors" "draft" "LSuitByTailors$Plan;" ∈ wG := wG_of (List.mem_append_right _ (List.mem_append_right _ (List.mem_append_left _ (List.mem_of_getElem? (i := 116) rfl)))) rfl
theorem wd_357 : Cond.laysFinal "SuitByTailors" "SuitByTailors" "text" "LSuitByTailors$Text;" ∈ wG := wG_of (List.mem_append_right _ (List.mem_append_right _ (List.mem_append_left _ (List.mem_of_getElem? (i := 117) rfl)))) rfl
theorem wd_359 : Cond.laysFinal "SuitByTailors" "SuitByTailors" "fitting" "LSuitByTailors$Fitting;" ∈ wG := wG_of (List.mem_append_right _ (List.mem_append_right _ (List.mem_append_left _ (List.mem_of_getElem? (i := 119) rfl)))) rfl
theorem wd_361 : Cond.laysFinal "SuitByTailors" "SuitByTailors" "undoable" "LSuitByTailors$FittingStack;" ∈ wG := wG_of (List.mem_append_right _ (List.mem_append_right _ (List.mem_append_left _ (List.mem_of_getElem? (i := 121) rfl)))) rfl
theorem wd_363 : Cond.laysFinal "SuitByTailors" "SuitByTailors" "kept" "LSuitByTailors$FittingStack;" ∈ wG := wG_of (List.mem_append_right _ (List.mem_append_right _ (List.mem_append_left _ (List.mem_of_getElem? (i := 123) rfl)))) rfl
theorem wd_365 : Cond.laysFinal "SuitByTailors" "SuitByTailors" "sightings" "LSuitByTailors$Sightings;" ∈ wG := wG_of (List.mem_append_right _ (List.mem_append_right _ (List.mem_append_left _ (List.mem_of_getElem? (i := 125) rfl)))) rfl
theorem wd_367 : Cond.laysFinal "SuitByTailors" "SuitByTailors" "pins" "LSuitByTailors$Pins;" ∈ wG := wG_of (List.mem_append_right _ (List.mem_append_right _ (List.mem_append_left _ (List.mem_of_getElem? (i := 127) rfl)))) rfl
theorem wd_369 : Cond.laysFinal "SuitByTailors" "SuitByTailors" "orderSearch" "LSuitByTailors$OrderSearch;" ∈ wG := wG_of (List.mem_append_right _ (List.mem_append_right _ (List.mem_append_left _ (List.mem_of_getElem? (i := 129) rfl)))) rfl
theorem wd_371 : Cond.laysFinal "SuitByTailors" "SuitByTailors" "boltSearch" "LSuitByTailors$BoltSearch;" ∈ wG := wG_of (List.mem_append_right _ (List.mem_append_right _ (List.mem_append_left _ (List.mem_of_getElem? (i := 131) rfl)))) rfl
theorem wd_373 : Cond.laysFinal "SuitByTailors" "SuitByTailors" "lengths" "[I" ∈ wG := wG_of (List.mem_append_right _ (List.mem_append_right _ (List.mem_append_left _ (List.mem_of_getElem? (i := 133) rfl)))) rfl
theorem wd_375 : Cond.laysFinal "SuitByTailors" "SuitByTailors" "toldTrue" "[I" ∈ wG := wG_of (List.mem_append_right _ (List.mem_append_right _ (List.mem_append_left _ (List.mem_of_getElem? (i := 135) rfl)))) rfl
theorem wd_377 : Cond.laysFinal "SuitByTailors" "SuitByTailors" "toldByBoy" "[I" ∈ wG := wG_of (List.mem_append_right _ (List.mem_append_right _ (List.mem_append_left _ (List.mem_of_getElem? (i := 137) rfl)))) rfl
theorem wd_379 : Cond.laysFinal "SuitByTailors" "SuitByTailors" "shortest" "[I" ∈ wG := wG_of (List.mem_append_right _ (List.mem_append_right _ (List.mem_append_left _ (List.mem_of_getElem? (i := 139) rfl)))) rfl
theorem wd_381 : Cond.lays "SuitByTailors" "SuitByTailors" "plan" "LSuitByTailors$Plan;" ∈ wG := wG_of (List.mem_append_right _ (List.mem_append_right _ (List.mem_append_left _ (List.mem_of_getElem? (i := 141) rfl)))) rfl
theorem wd_383 : Cond.lays "SuitByTailors" "SuitByTailors" "draft" "LSuitByTailors$Plan;" ∈ wG := wG_of (List.mem_append_right _ (List.mem_append_right _ (List.mem_append_left _ (List.mem_of_getElem? (i := 143) rfl)))) rfl
theorem wd_386 : Cond.methodLink "SuitByTailorsLaw" 15 ⟨"SuitByTailors", "write", "(IJ)I"⟩ ∈ wG := wG_of (List.mem_append_right _ (List.mem_append_right _ (List.mem_append_left _ (List.mem_of_getElem? (i := 146) rfl)))) rfl
theorem wd_387 : Cond.instanceMethod ⟨"SuitByTailors", "write", "(IJ)I"⟩ ∈ wG := wG_of (List.mem_append_right _ (List.mem_append_right _ (List.mem_append_left _ (List.mem_of_getElem? (i := 147) rfl)))) rfl
theorem wd_388 : Cond.selects "SuitByTailors" ⟨"SuitByTailors", "write", "(IJ)I"⟩ ⟨"SuitByTailors", "write", "(IJ)I"⟩ ∈ wG := wG_of (List.mem_append_right _ (List.mem_append_right _ (List.mem_append_left _ (List.mem_of_getElem? (i := 148) rfl)))) rfl
theorem wd_389 : Cond.code ⟨"SuitByTailors", "write", "(IJ)I"⟩ prog_1_method_2_code 5 (some .int) ∈ wG := wG_of (List.mem_append_right _ (List.mem_append_right _ (List.mem_append_left _ (List.mem_of_getElem? (i := 149) rfl)))) rfl
theorem wd_390 : Cond.methodLink "SuitByTailorsLaw" 20 ⟨"SuitByTailors", "wipe", "()I"⟩ ∈ wG := wG_of (List.mem_append_right _ (List.mem_append_right _ (List.mem_append_left _ (List.mem_of_getElem? (i := 150) rfl)))) rfl
theorem wd_391 : Cond.instanceMethod ⟨"SuitByTailors", "wipe", "()I"⟩ ∈ wG := wG_of (List.mem_append_right _ (List.mem_append_right _ (List.mem_append_left _ (List.mem_of_getElem? (i := 151) rfl)))) rfl
theorem wd_392 : Cond.selects "SuitByTailors" ⟨"SuitByTailors", "wipe", "()I"⟩ ⟨"SuitByTailors", "wipe", "()I"⟩ ∈ wG := wG_of (List.mem_append_right _ (List.mem_append_right _ (List.mem_append_left _ (List.mem_of_getElem? (i := 152) rfl)))) rfl
theorem wd_393 : Cond.code ⟨"SuitByTailors", "wipe", "()I"⟩ prog_1_method_3_code 2 (some .int) ∈ wG := wG_of (List.mem_append_right _ (List.mem_append_right _ (List.mem_append_left _ (List.mem_of_getElem? (i := 153) rfl)))) rfl
theorem wd_394 : Cond.methodLink "SuitByTailorsLaw" 25 ⟨"SuitByTailors", "fault", "()I"⟩ ∈ wG := wG_of (List.mem_append_right _ (List.mem_append_right _ (List.mem_append_left _ (List.mem_of_getElem? (i := 154) rfl)))) rfl
theorem wd_395 : Cond.instanceMethod ⟨"SuitByTailors", "fault", "()I"⟩ ∈ wG := wG_of (List.mem_append_right _ (List.mem_append_right _ (List.mem_append_left _ (List.mem_of_getElem? (i := 155) rfl)))) rfl
theorem wd_396 : Cond.selects "SuitByTailors" ⟨"SuitByTailors", "fault", "()I"⟩ ⟨"SuitByTailors", "fault", "()I"⟩ ∈ wG := wG_of (List.mem_append_right _ (List.mem_append_right _ (List.mem_append_left _ (List.mem_of_getElem? (i := 156) rfl)))) rfl
theorem wd_397 : Cond.code ⟨"SuitByTailors", "fault", "()I"⟩ prog_1_method_4_code 1 (some .int) ∈ wG := wG_of (List.mem_append_right _ (List.mem_append_right _ (List.mem_append_left _ (List.mem_of_getElem? (i := 157) rfl)))) rfl
theorem wd_398 : Cond.methodLink "SuitByTailorsLaw" 29 ⟨"SuitByTailors", "lay", "()I"⟩ ∈ wG := wG_of (List.mem_append_right _ (List.mem_append_right _ (List.mem_append_left _ (List.mem_of_getElem? (i := 158) rfl)))) rfl
theorem wd_399 : Cond.instanceMethod ⟨"SuitByTailors", "lay", "()I"⟩ ∈ wG := wG_of (List.mem_append_right _ (List.mem_append_right _ (List.mem_append_left _ (List.mem_of_getElem? (i := 159) rfl)))) rfl
theorem wd_400 : Cond.selects "SuitByTailors" ⟨"SuitByTailors", "lay", "()I"⟩ ⟨"SuitByTailors", "lay", "()I"⟩ ∈ wG := wG_of (List.mem_append_right _ (List.mem_append_right _ (List.mem_append_left _ (List.mem_of_getElem? (i := 160) rfl)))) rfl
theorem wd_401 : Cond.code ⟨"SuitByTailors", "lay", "()I"⟩ prog_1_method_5_code 2 (some .int) ∈ wG := wG_of (List.mem_append_right _ (List.mem_append_right _ (List.mem_append_left _ (List.mem_of_getElem? (i := 161) rfl)))) rfl
theorem wd_402 : Cond.methodLink "SuitByTailors" 111 ⟨"SuitByTailors$Fitting", "startAnew", "()V"⟩ ∈ wG := wG_of (List.mem_append_right _ (List.mem_append_right _ (List.mem_append_left _ (List.mem_of_getElem? (i := 162) rfl)))) rfl
theorem wd_403 : Cond.methodLink "SuitByTailors" 114 ⟨"SuitByTailors$FittingStack", "clear", "()V"⟩ ∈ wG := wG_of (List.mem_append_right _ (List.mem_append_right _ (List.mem_append_left _ (List.mem_of_getElem? (i := 163) rfl)))) rfl
theorem wd_404 : Cond.instanceMethod ⟨"SuitByTailors$FittingStack", "clear", "()V"⟩ ∈ wG := wG_of (List.mem_append_right _ (List.mem_append_right _ (List.mem_append_left _ (List.mem_of_getElem? (i := 164) rfl)))) rfl
theorem wd_405 : Cond.selects "SuitByTailors$FittingStack" ⟨"SuitByTailors$FittingStack", "clear", "()V"⟩ ⟨"SuitByTailors$FittingStack", "clear", "()V"⟩ ∈ wG := wG_of (List.mem_append_right _ (List.mem_append_right _ (List.mem_append_left _ (List.mem_of_getElem? (i := 165) rfl)))) rfl
theorem wd_406 : Cond.code ⟨"SuitByTailors$FittingStack", "clear", "()V"⟩ prog_4_method_2_code 1 none ∈ wG := wG_of (List.mem_append_right _ (List.mem_append_right _ (List.mem_append_left _ (List.mem_of_getElem? (i := 166) rfl)))) rfl
theorem wd_407 : Cond.methodLink "SuitByTailorsLaw" 33 ⟨"SuitByTailors", "part", "(II)I"⟩ ∈ wG := wG_of (List.mem_append_right _ (List.mem_append_right _ (List.mem_append_left _ (List.mem_of_getElem? (i := 167) rfl)))) rfl
theorem wd_408 : Cond.instanceMethod ⟨"SuitByTailors", "part", "(II)I"⟩ ∈ wG := wG_of (List.mem_append_right _ (List.mem_append_right _ (List.mem_append_left _ (List.mem_of_getElem? (i := 168) rfl)))) rfl
theorem wd_409 : Cond.selects "SuitByTailors" ⟨"SuitByTailors", "part", "(II)I"⟩ ⟨"SuitByTailors", "part", "(II)I"⟩ ∈ wG := wG_of (List.mem_append_right _ (List.mem_append_right _ (List.mem_append_left _ (List.mem_of_getElem? (i := 169) rfl)))) rfl
theorem wd_410 : Cond.code ⟨"SuitByTailors", "part", "(II)I"⟩ prog_1_method_6_code 3 (some .int) ∈ wG := wG_of (List.mem_append_right _ (List.mem_append_right _ (List.mem_append_left _ (List.mem_of_getElem? (i := 170) rfl)))) rfl
theorem wd_411 : Cond.methodLink "SuitByTailors" 125 ⟨"SuitByTailors$Plan", "hasPart", "(I)Z"⟩ ∈ wG := wG_of (List.mem_append_right _ (List.mem_append_right _ (List.mem_append_left _ (List.mem_of_getElem? (i := 171) rfl)))) rfl
theorem wd_412 : Cond.methodLink "SuitByTailors" 138 ⟨"SuitByTailors$Fitting", "placeOf", "(I)I"⟩ ∈ wG := wG_of (List.mem_append_right _ (List.mem_append_right _ (List.mem_append_left _ (List.mem_of_getElem? (i := 172) rfl)))) rfl
theorem wd_413 : Cond.instanceMethod ⟨"SuitByTailors$Fitting", "placeOf", "(I)I"⟩ ∈ wG := wG_of (List.mem_append_right _ (List.mem_append_right _ (List.mem_append_left _ (List.mem_of_getElem? (i := 173) rfl)))) rfl
theorem wd_414 : Cond.selects "SuitByTailors$Fitting" ⟨"SuitByTailors$Fitting", "placeOf", "(I)I"⟩ ⟨"SuitByTailors$Fitting", "placeOf", "(I)I"⟩ ∈ wG := wG_of (List.mem_append_right _ (List.mem_append_right _ (List.mem_append_left _ (List.mem_of_getElem? (i := 174) rfl)))) rfl
theorem wd_415 : Cond.code ⟨"SuitByTailors$Fitting", "placeOf", "(I)I"⟩ prog_3_method_3_code 3 (some .int) ∈ wG := wG_of (List.mem_append_right _ (List.mem_append_right _ (List.mem_append_left _ (List.mem_of_getElem? (i := 175) rfl)))) rfl
theorem wd_416 : Cond.methodLink "SuitByTailors" 142 ⟨"SuitByTailors", "slipNow", "(I)I"⟩ ∈ wG := wG_of (List.mem_append_right _ (List.mem_append_right _ (List.mem_append_left _ (List.mem_of_getElem? (i := 176) rfl)))) rfl
theorem wd_418 : Cond.instanceMethod ⟨"SuitByTailors", "slipNow", "(I)I"⟩ ∈ wG := wG_of (List.mem_append_right _ (List.mem_append_right _ (List.mem_append_left _ (List.mem_of_getElem? (i := 178) rfl)))) rfl
theorem wd_419 : Cond.code ⟨"SuitByTailors", "slipNow", "(I)I"⟩ prog_1_method_29_code 2 (some .int) ∈ wG := wG_of (List.mem_append_right _ (List.mem_append_right _ (List.mem_append_left _ (List.mem_of_getElem? (i := 179) rfl)))) rfl
theorem wd_420 : Cond.methodLink "SuitByTailors" 254 ⟨"SuitByTailors$Plan", "slip", "(III)I"⟩ ∈ wG := wG_of (List.mem_append_right _ (List.mem_append_right _ (List.mem_append_left _ (List.mem_of_getElem? (i := 180) rfl)))) rfl
theorem wd_421 : Cond.static ⟨"SuitByTailors$Plan", "slip", "(III)I"⟩ ∈ wG := wG_of (List.mem_append_right _ (List.mem_append_right _ (List.mem_append_left _ (List.mem_of_getElem? (i := 181) rfl)))) rfl
theorem wd_422 : Cond.code ⟨"SuitByTailors$Plan", "slip", "(III)I"⟩ prog_7_method_13_code 6 (some .int) ∈ wG := wG_of (List.mem_append_right _ (List.mem_append_right _ (List.mem_append_left _ (List.mem_of_getElem? (i := 182) rfl)))) rfl
theorem wd_423 : Cond.constantLong "SuitByTailors$Plan" 76 (7919 : Int64) ∈ wG := wG_of (List.mem_append_right _ (List.mem_append_right _ (List.mem_append_left _ (List.mem_of_getElem? (i := 183) rfl)))) rfl
theorem wd_424 : Cond.constantLong "SuitByTailors$Plan" 78 (6151 : Int64) ∈ wG := wG_of (List.mem_append_right _ (List.mem_append_right _ (List.mem_append_left _ (List.mem_of_getElem? (i := 184) rfl)))) rfl
theorem wd_425 : Cond.constantLong "SuitByTailors$Plan" 80 (3571 : Int64) ∈ wG := wG_of (List.mem_append_right _ (List.mem_append_right _ (List.mem_append_left _ (List.mem_of_getElem? (i := 185) rfl)))) rfl
theorem wd_426 : Cond.methodLink "SuitByTailors$Plan" 82 ⟨"java/lang/Math", "min", "(II)I"⟩ ∈ wG := wG_of (List.mem_append_right _ (List.mem_append_right _ (List.mem_append_left _ (List.mem_of_getElem? (i := 186) rfl)))) rfl
theorem wd_427 : Cond.static ⟨"java/lang/Math", "min", "(II)I"⟩ ∈ wG := wG_of (List.mem_append_right _ (List.mem_append_right _ (List.mem_append_left _ (List.mem_of_getElem? (i := 187) rfl)))) rfl
theorem wd_428 : Cond.code ⟨"java/lang/Math", "min", "(II)I"⟩ prog_12_method_69_code 2 (some .int) ∈ wG := wG_of (List.mem_append_right _ (List.mem_append_right _ (List.mem_append_left _ (List.mem_of_getElem? (i := 188) rfl)))) rfl
theorem wd_429 : Cond.methodLink "SuitByTailors$Plan" 88 ⟨"java/lang/Math", "max", "(II)I"⟩ ∈ wG := wG_of (List.mem_append_right _ (List.mem_append_right _ (List.mem_append_left _ (List.mem_of_getElem? (i := 189) rfl)))) rfl
theorem wd_430 : Cond.constantLong "SuitByTailors$Plan" 91 (65521 : Int64) ∈ wG := wG_of (List.mem_append_right _ (List.mem_append_right _ (List.mem_append_left _ (List.mem_of_getElem? (i := 190) rfl)))) rfl
theorem wd_431 : Cond.methodLink "SuitByTailors" 145 ⟨"SuitByTailors$Plan", "cutLength", "(II)I"⟩ ∈ wG := wG_of (List.mem_append_right _ (List.mem_append_right _ (List.mem_append_left _ (List.mem_of_getElem? (i := 191) rfl)))) rfl
theorem wd_432 : Cond.instanceMethod ⟨"SuitByTailors$Plan", "cutLength", "(II)I"⟩ ∈ wG := wG_of (List.mem_append_right _ (List.mem_append_right _ (List.mem_append_left _ (List.mem_of_getElem? (i := 192) rfl)))) rfl
theorem wd_433 : Cond.selects "SuitByTailors$Plan" ⟨"SuitByTailors$Plan", "cutLength", "(II)I"⟩ ⟨"SuitByTailors$Plan", "cutLength", "(II)I"⟩ ∈ wG := wG_of (List.mem_append_right _ (List.mem_append_right _ (List.mem_append_left _ (List.mem_of_getElem? (i := 193) rfl)))) rfl
theorem wd_434 : Cond.code ⟨"SuitByTailors$Plan", "cutLength", "(II)I"⟩ prog_7_method_14_code 3 (some .int) ∈ wG := wG_of (List.mem_append_right _ (List.mem_append_right _ (List.mem_append_left _ (List.mem_of_getElem? (i := 194) rfl)))) rfl
theorem wd_435 : Cond.methodLink "SuitByTailors$Plan" 93 ⟨"SuitByTailors$Plan", "byInch", "(II)I"⟩ ∈ wG := wG_of (List.mem_append_right _ (List.mem_append_right _ (List.mem_append_left _ (List.mem_of_getElem? (i := 195) rfl)))) rfl
theorem wd_436 : Cond.static ⟨"SuitByTailors$Plan", "byInch", "(II)I"⟩ ∈ wG := wG_of (List.mem_append_right _ (List.mem_append_right _ (List.mem_append_left _ (List.mem_of_getElem? (i := 196) rfl)))) rfl
theorem wd_437 : Cond.code ⟨"SuitByTailors$Plan", "byInch", "(II)I"⟩ prog_7_method_15_code 2 (some .int) ∈ wG := wG_of (List.mem_append_right _ (List.mem_append_right _ (List.mem_append_left _ (List.mem_of_getElem? (i := 197) rfl)))) rfl
theorem wd_438 : Cond.methodLink "SuitByTailors" 149 ⟨"SuitByTailors", "lengthNow", "(I)I"⟩ ∈ wG := wG_of (List.mem_append_right _ (List.mem_append_right _ (List.mem_append_left _ (List.mem_of_getElem? (i := 198) rfl)))) rfl
theorem wd_440 : Cond.instanceMethod ⟨"SuitByTailors", "lengthNow", "(I)I"⟩ ∈ wG := wG_of (List.mem_append_right _ (List.mem_append_right _ (List.mem_append_left _ (List.mem_of_getElem? (i := 200) rfl)))) rfl
theorem wd_441 : Cond.code ⟨"SuitByTailors", "lengthNow", "(I)I"⟩ prog_1_method_30_code 2 (some .int) ∈ wG := wG_of (List.mem_append_right _ (List.mem_append_right _ (List.mem_append_left _ (List.mem_of_getElem? (i := 201) rfl)))) rfl
theorem wd_442 : Cond.methodLink "SuitByTailorsLaw" 38 ⟨"SuitByTailors", "gap", "(I)I"⟩ ∈ wG := wG_of (List.mem_append_right _ (List.mem_append_right _ (List.mem_append_left _ (List.mem_of_getElem? (i := 202) rfl)))) rfl
theorem wd_443 : Cond.instanceMethod ⟨"SuitByTailors", "gap", "(I)I"⟩ ∈ wG := wG_of (List.mem_append_right _ (List.mem_append_right _ (List.mem_append_left _ (List.mem_of_getElem? (i := 203) rfl)))) rfl
theorem wd_444 : Cond.selects "SuitByTailors" ⟨"SuitByTailors", "gap", "(I)I"⟩ ⟨"SuitByTailors", "gap", "(I)I"⟩ ∈ wG := wG_of (List.mem_append_right _ (List.mem_append_right _ (List.mem_append_left _ (List.mem_of_getElem? (i := 204) rfl)))) rfl
theorem wd_445 : Cond.code ⟨"SuitByTailors", "gap", "(I)I"⟩ prog_1_method_7_code 2 (some .int) ∈ wG := wG_of (List.mem_append_right _ (List.mem_append_right _ (List.mem_append_left _ (List.mem_of_getElem? (i := 205) rfl)))) rfl
theorem wd_446 : Cond.methodLink "SuitByTailors" 152 ⟨"SuitByTailors$Plan", "hasSeam", "(I)Z"⟩ ∈ wG := wG_of (List.mem_append_right _ (List.mem_append_right _ (List.mem_append_left _ (List.mem_of_getElem? (i := 206) rfl)))) rfl
theorem wd_447 : Cond.instanceMethod ⟨"SuitByTailors$Plan", "hasSeam", "(I)Z"⟩ ∈ wG := wG_of (List.mem_append_right _ (List.mem_append_right _ (List.mem_append_left _ (List.mem_of_getElem? (i := 207) rfl)))) rfl
theorem wd_448 : Cond.selects "SuitByTailors$Plan" ⟨"SuitByTailors$Plan", "hasSeam", "(I)Z"⟩ ⟨"SuitByTailors$Plan", "hasSeam", "(I)Z"⟩ ∈ wG := wG_of (List.mem_append_right _ (List.mem_append_right _ (List.mem_append_left _ (List.mem_of_getElem? (i := 208) rfl)))) rfl
theorem wd_449 : Cond.code ⟨"SuitByTailors$Plan", "hasSeam", "(I)Z"⟩ prog_7_method_5_code 2 (some .boolean) ∈ wG := wG_of (List.mem_append_right _ (List.mem_append_right _ (List.mem_append_left _ (List.mem_of_getElem? (i := 209) rfl)))) rfl
theorem wd_450 : Cond.methodLink "SuitByTailors" 155 ⟨"SuitByTailors", "measureNow", "()V"⟩ ∈ wG := wG_of (List.mem_append_right _ (List.mem_append_right _ (List.mem_append_left _ (List.mem_of_getElem? (i := 210) rfl)))) rfl
theorem wd_452 : Cond.instanceMethod ⟨"SuitByTailors", "measureNow", "()V"⟩ ∈ wG := wG_of (List.mem_append_right _ (List.mem_append_right _ (List.mem_append_left _ (List.mem_of_getElem? (i := 212) rfl)))) rfl
theorem wd_453 : Cond.code ⟨"SuitByTailors", "measureNow", "()V"⟩ prog_1_method_31_code 2 none ∈ wG := wG_of (List.mem_append_right _ (List.mem_append_right _ (List.mem_append_left _ (List.mem_of_getElem? (i := 213) rfl)))) rfl
theorem wd_454 : Cond.methodLink "SuitByTailors" 158 ⟨"SuitByTailors$Plan", "sumOfGaps", "([I)I"⟩ ∈ wG := wG_of (List.mem_append_right _ (List.mem_append_right _ (List.mem_append_left _ (List.mem_of_getElem? (i := 214) rfl)))) rfl
theorem wd_455 : Cond.instanceMethod ⟨"SuitByTailors$Plan", "sumOfGaps", "([I)I"⟩ ∈ wG := wG_of (List.mem_append_right _ (List.mem_append_right _ (List.mem_append_left _ (List.mem_of_getElem? (i := 215) rfl)))) rfl
theorem wd_456 : Cond.selects "SuitByTailors$Plan" ⟨"SuitByTailors$Plan", "sumOfGaps", "([I)I"⟩ ⟨"SuitByTailors$Plan", "sumOfGaps", "([I)I"⟩ ∈ wG := wG_of (List.mem_append_right _ (List.mem_append_right _ (List.mem_append_left _ (List.mem_of_getElem? (i := 216) rfl)))) rfl
theorem wd_457 : Cond.code ⟨"SuitByTailors$Plan", "sumOfGaps", "([I)I"⟩ prog_7_method_17_code 4 (some .int) ∈ wG := wG_of (List.mem_append_right _ (List.mem_append_right _ (List.mem_append_left _ (List.mem_of_getElem? (i := 217) rfl)))) rfl
theorem wd_458 : Cond.methodLink "SuitByTailors$Plan" 100 ⟨"SuitByTailors$Plan", "gapOf", "(I[I)I"⟩ ∈ wG := wG_of (List.mem_append_right _ (List.mem_append_right _ (List.mem_append_left _ (List.mem_of_getElem? (i := 218) rfl)))) rfl
theorem wd_459 : Cond.instanceMethod ⟨"SuitByTailors$Plan", "gapOf", "(I[I)I"⟩ ∈ wG := wG_of (List.mem_append_right _ (List.mem_append_right _ (List.mem_append_left _ (List.mem_of_getElem? (i := 219) rfl)))) rfl
theorem wd_460 : Cond.selects "SuitByTailors$Plan" ⟨"SuitByTailors$Plan", "gapOf", "(I[I)I"⟩ ⟨"SuitByTailors$Plan", "gapOf", "(I[I)I"⟩ ∈ wG := wG_of (List.mem_append_right _ (List.mem_append_right _ (List.mem_append_left _ (List.mem_of_getElem? (i := 220) rfl)))) rfl
theorem wd_461 : Cond.code ⟨"SuitByTailors$Plan", "gapOf", "(I[I)I"⟩ prog_7_method_16_code 3 (some .int) ∈ wG := wG_of (List.mem_append_right _ (List.mem_append_right _ (List.mem_append_left _ (List.mem_of_getElem? (i := 221) rfl)))) rfl
theorem wd_462 : Cond.methodLink "SuitByTailors$Plan" 96 ⟨"java/lang/Math", "abs", "(I)I"⟩ ∈ wG := wG_of (List.mem_append_right _ (List.mem_append_right _ (List.mem_append_left _ (List.mem_of_getElem? (i := 222) rfl)))) rfl
theorem wd_463 : Cond.static ⟨"java/lang/Math", "abs", "(I)I"⟩ ∈ wG := wG_of (List.mem_append_right _ (List.mem_append_right _ (List.mem_append_left _ (List.mem_of_getElem? (i := 223) rfl)))) rfl
theorem wd_464 : Cond.code ⟨"java/lang/Math", "abs", "(I)I"⟩ prog_12_method_59_code 1 (some .int) ∈ wG := wG_of (List.mem_append_right _ (List.mem_append_right _ (List.mem_append_left _ (List.mem_of_getElem? (i := 224) rfl)))) rfl
theorem wd_465 : Cond.methodLink "SuitByTailors" 162 ⟨"SuitByTailors$Plan", "gapOf", "(I[I)I"⟩ ∈ wG := wG_of (List.mem_append_right _ (List.mem_append_right _ (List.mem_append_left _ (List.mem_of_getElem? (i := 225) rfl)))) rfl
theorem wd_466 : Cond.methodLink "SuitByTailorsLaw" 43 ⟨"SuitByTailors", "closes", "()I"⟩ ∈ wG := wG_of (List.mem_append_right _ (List.mem_append_right _ (List.mem_append_left _ (List.mem_of_getElem? (i := 226) rfl)))) rfl
theorem wd_467 : Cond.instanceMethod ⟨"SuitByTailors", "closes", "()I"⟩ ∈ wG := wG_of (List.mem_append_right _ (List.mem_append_right _ (List.mem_append_left _ (List.mem_of_getElem? (i := 227) rfl)))) rfl
theorem wd_468 : Cond.selects "SuitByTailors" ⟨"SuitByTailors", "closes", "()I"⟩ ⟨"SuitByTailors", "closes", "()I"⟩ ∈ wG := wG_of (List.mem_append_right _ (List.mem_append_right _ (List.mem_append_left _ (List.mem_of_getElem? (i := 228) rfl)))) rfl
theorem wd_469 : Cond.code ⟨"SuitByTailors", "closes", "()I"⟩ prog_1_method_8_code 1 (some .int) ∈ wG := wG_of (List.mem_append_right _ (List.mem_append_right _ (List.mem_append_left _ (List.mem_of_getElem? (i := 229) rfl)))) rfl
theorem wd_470 : Cond.methodLink "SuitByTailors" 166 ⟨"SuitByTailors$Plan", "isClosedBy", "([I)Z"⟩ ∈ wG := wG_of (List.mem_append_right _ (List.mem_append_right _ (List.mem_append_left _ (List.mem_of_getElem? (i := 230) rfl)))) rfl
theorem wd_471 : Cond.instanceMethod ⟨"SuitByTailors$Plan", "isClosedBy", "([I)Z"⟩ ∈ wG := wG_of (List.mem_append_right _ (List.mem_append_right _ (List.mem_append_left _ (List.mem_of_getElem? (i := 231) rfl)))) rfl
theorem wd_472 : Cond.selects "SuitByTailors$Plan" ⟨"SuitByTailors$Plan", "isClosedBy", "([I)Z"⟩ ⟨"SuitByTailors$Plan", "isClosedBy", "([I)Z"⟩ ∈ wG := wG_of (List.mem_append_right _ (List.mem_append_right _ (List.mem_append_left _ (List.mem_of_getElem? (i := 232) rfl)))) rfl
theorem wd_473 : Cond.code ⟨"SuitByTailors$Plan", "isClosedBy", "([I)Z"⟩ prog_7_method_18_code 3 (some .boolean) ∈ wG := wG_of (List.mem_append_right _ (List.mem_append_right _ (List.mem_append_left _ (List.mem_of_getElem? (i := 233) rfl)))) rfl
theorem wd_474 : Cond.methodLink "SuitByTailorsLaw" 47 ⟨"SuitByTailors", "change", "(II)I"⟩ ∈ wG := wG_of (List.mem_append_right _ (List.mem_append_right _ (List.mem_append_left _ (List.mem_of_getElem? (i := 234) rfl)))) rfl
theorem wd_475 : Cond.instanceMethod ⟨"SuitByTailors", "change", "(II)I"⟩ ∈ wG := wG_of (List.mem_append_right _ (List.mem_append_right _ (List.mem_append_left _ (List.mem_of_getElem? (i := 235) rfl)))) rfl
theorem wd_476 : Cond.selects "SuitByTailors" ⟨"SuitByTailors", "change", "(II)I"⟩ ⟨"SuitByTailors", "change", "(II)I"⟩ ∈ wG := wG_of (List.mem_append_right _ (List.mem_append_right _ (List.mem_append_left _ (List.mem_of_getElem? (i := 236) rfl)))) rfl
theorem wd_477 : Cond.code ⟨"SuitByTailors", "change", "(II)I"⟩ prog_1_method_9_code 3 (some .int) ∈ wG := wG_of (List.mem_append_right _ (List.mem_append_right _ (List.mem_append_left _ (List.mem_of_getElem? (i := 237) rfl)))) rfl
theorem wd_478 : Cond.methodLink "SuitByTailors" 170 ⟨"SuitByTailors$FittingStack", "push", "(LSuitByTailors$Fitting;)V"⟩ ∈ wG := wG_of (List.mem_append_right _ (List.mem_append_right _ (List.mem_append_left _ (List.mem_of_getElem? (i := 238) rfl)))) rfl
theorem wd_479 : Cond.instanceMethod ⟨"SuitByTailors$FittingStack", "push", "(LSuitByTailors$Fitting;)V"⟩ ∈ wG := wG_of (List.mem_append_right _ (List.mem_append_right _ (List.mem_append_left _ (List.mem_of_getElem? (i := 239) rfl)))) rfl
theorem wd_480 : Cond.selects "SuitByTailors$FittingStack" ⟨"SuitByTailors$FittingStack", "push", "(LSuitByTailors$Fitting;)V"⟩ ⟨"SuitByTailors$FittingStack", "push", "(LSuitByTailors$Fitting;)V"⟩ ∈ wG := wG_of (List.mem_append_right _ (List.mem_append_right _ (List.mem_append_right _ (List.mem_append_left _ (List.mem_of_getElem? (i := 0) rfl))))) rfl
theorem wd_481 : Cond.code ⟨"SuitByTailors$FittingStack", "push", "(LSuitByTailors$Fitting;)V"⟩ prog_4_method_3_code 3 none ∈ wG := wG_of (List.mem_append_right _ (List.mem_append_right _ (List.mem_append_right _ (List.mem_append_left _ (List.mem_of_getElem? (i := 1) rfl))))) rfl
theorem wd_482 : Cond.methodLink "SuitByTailors$FittingStack" 38 ⟨"java/lang/Math", "min", "(II)I"⟩ ∈ wG := wG_of (List.mem_append_right _ (List.mem_append_right _ (List.mem_append_right _ (List.mem_append_left _ (List.mem_of_getElem? (i := 2) rfl))))) rfl
theorem wd_483 : Cond.methodLink "SuitByTailors" 174 ⟨"SuitByTailors$Fitting", "swapPlaces", "(II)V"⟩ ∈ wG := wG_of (List.mem_append_right _ (List.mem_append_right _ (List.mem_append_right _ (List.mem_append_left _ (List.mem_of_getElem? (i := 3) rfl))))) rfl
theorem wd_484 : Cond.instanceMethod ⟨"SuitByTailors$Fitting", "swapPlaces", "(II)V"⟩ ∈ wG := wG_of (List.mem_append_right _ (List.mem_append_right _ (List.mem_append_right _ (List.mem_append_left _ (List.mem_of_getElem? (i := 4) rfl))))) rfl
theorem wd_485 : Cond.selects "SuitByTailors$Fitting" ⟨"SuitByTailors$Fitting", "swapPlaces", "(II)V"⟩ ⟨"SuitByTailors$Fitting", "swapPlaces", "(II)V"⟩ ∈ wG := wG_of (List.mem_append_right _ (List.mem_append_right _ (List.mem_append_right _ (List.mem_append_left _ (List.mem_of_getElem? (i := 5) rfl))))) rfl
theorem wd_486 : Cond.code ⟨"SuitByTailors$Fitting", "swapPlaces", "(II)V"⟩ prog_3_method_4_code 5 none ∈ wG := wG_of (List.mem_append_right _ (List.mem_append_right _ (List.mem_append_right _ (List.mem_append_left _ (List.mem_of_getElem? (i := 6) rfl))))) rfl
theorem wd_487 : Cond.methodLink "SuitByTailorsLaw" 51 ⟨"SuitByTailors", "alter", "(II)I"⟩ ∈ wG := wG_of (List.mem_append_right _ (List.mem_append_right _ (List.mem_append_right _ (List.mem_append_left _ (List.mem_of_getElem? (i := 7) rfl))))) rfl
theorem wd_488 : Cond.instanceMethod ⟨"SuitByTailors", "alter", "(II)I"⟩ ∈ wG := wG_of (List.mem_append_right _ (List.mem_append_right _ (List.mem_append_right _ (List.mem_append_left _ (List.mem_of_getElem? (i := 8) rfl))))) rfl
theorem wd_489 : Cond.selects "SuitByTailors" ⟨"SuitByTailors", "alter", "(II)I"⟩ ⟨"SuitByTailors", "alter", "(II)I"⟩ ∈ wG := wG_of (List.mem_append_right _ (List.mem_append_right _ (List.mem_append_right _ (List.mem_append_left _ (List.mem_of_getElem? (i := 9) rfl))))) rfl
theorem wd_490 : Cond.code ⟨"SuitByTailors", "alter", "(II)I"⟩ prog_1_method_10_code 4 (some .int) ∈ wG := wG_of (List.mem_append_right _ (List.mem_append_right _ (List.mem_append_right _ (List.mem_append_left _ (List.mem_of_getElem? (i := 10) rfl))))) rfl
theorem wd_491 : Cond.methodLink "SuitByTailorsLaw" 55 ⟨"SuitByTailors", "undo", "()I"⟩ ∈ wG := wG_of (List.mem_append_right _ (List.mem_append_right _ (List.mem_append_right _ (List.mem_append_left _ (List.mem_of_getElem? (i := 11) rfl))))) rfl
theorem wd_492 : Cond.instanceMethod ⟨"SuitByTailors", "undo", "()I"⟩ ∈ wG := wG_of (List.mem_append_right _ (List.mem_append_right _ (List.mem_append_right _ (List.mem_append_left _ (List.mem_of_getElem? (i := 12) rfl))))) rfl
theorem wd_493 : Cond.selects "SuitByTailors" ⟨"SuitByTailors", "undo", "()I"⟩ ⟨"SuitByTailors", "undo", "()I"⟩ ∈ wG := wG_of (List.mem_append_right _ (List.mem_append_right _ (List.mem_append_right _ (List.mem_append_left _ (List.mem_of_getElem? (i := 13) rfl))))) rfl
theorem wd_494 : Cond.code ⟨"SuitByTailors", "undo", "()I"⟩ prog_1_method_11_code 1 (some .int) ∈ wG := wG_of (List.mem_append_right _ (List.mem_append_right _ (List.mem_append_right _ (List.mem_append_left _ (List.mem_of_getElem? (i := 14) rfl))))) rfl
theorem wd_495 : Cond.methodLink "SuitByTailors" 182 ⟨"SuitByTailors$FittingStack", "popInto", "(LSuitByTailors$Fitting;)V"⟩ ∈ wG := wG_of (List.mem_append_right _ (List.mem_append_right _ (List.mem_append_right _ (List.mem_append_left _ (List.mem_of_getElem? (i := 15) rfl))))) rfl
theorem wd_496 : Cond.instanceMethod ⟨"SuitByTailors$FittingStack", "popInto", "(LSuitByTailors$Fitting;)V"⟩ ∈ wG := wG_of (List.mem_append_right _ (List.mem_append_right _ (List.mem_append_right _ (List.mem_append_left _ (List.mem_of_getElem? (i := 16) rfl))))) rfl
theorem wd_497 : Cond.selects "SuitByTailors$FittingStack" ⟨"SuitByTailors$FittingStack", "popInto", "(LSuitByTailors$Fitting;)V"⟩ ⟨"SuitByTailors$FittingStack", "popInto", "(LSuitByTailors$Fitting;)V"⟩ ∈ wG := wG_of (List.mem_append_right _ (List.mem_append_right _ (List.mem_append_right _ (List.mem_append_left _ (List.mem_of_getElem? (i := 17) rfl))))) rfl
theorem wd_498 : Cond.code ⟨"SuitByTailors$FittingStack", "popInto", "(LSuitByTailors$Fitting;)V"⟩ prog_4_method_4_code 3 none ∈ wG := wG_of (List.mem_append_right _ (List.mem_append_right _ (List.mem_append_right _ (List.mem_append_left _ (List.mem_of_getElem? (i := 18) rfl))))) rfl
theorem wd_499 : Cond.methodLink "SuitByTailorsLaw" 59 ⟨"SuitByTailors", "order", "(I)I"⟩ ∈ wG := wG_of (List.mem_append_right _ (List.mem_append_right _ (List.mem_append_right _ (List.mem_append_left _ (List.mem_of_getElem? (i := 19) rfl))))) rfl
theorem wd_500 : Cond.instanceMethod ⟨"SuitByTailors", "order", "(I)I"⟩ ∈ wG := wG_of (List.mem_append_right _ (List.mem_append_right _ (List.mem_append_right _ (List.mem_append_left _ (List.mem_of_getElem? (i := 20) rfl))))) rfl
theorem wd_501 : Cond.selects "SuitByTailors" ⟨"SuitByTailors", "order", "(I)I"⟩ ⟨"SuitByTailors", "order", "(I)I"⟩ ∈ wG := wG_of (List.mem_append_right _ (List.mem_append_right _ (List.mem_append_right _ (List.mem_append_left _ (List.mem_of_getElem? (i := 21) rfl))))) rfl
theorem wd_502 : Cond.code ⟨"SuitByTailors", "order", "(I)I"⟩ prog_1_method_12_code 2 (some .int) ∈ wG := wG_of (List.mem_append_right _ (List.mem_append_right _ (List.mem_append_right _ (List.mem_append_left _ (List.mem_of_getElem? (i := 22) rfl))))) rfl
theorem wd_503 : Cond.methodLink "SuitByTailors" 185 ⟨"SuitByTailors$OrderSearch", "search", "(LSuitByTailors$Plan;)V"⟩ ∈ wG := wG_of (List.mem_append_right _ (List.mem_append_right _ (List.mem_append_right _ (List.mem_append_left _ (List.mem_of_getElem? (i := 23) rfl))))) rfl
theorem wd_504 : Cond.instanceMethod ⟨"SuitByTailors$OrderSearch", "search", "(LSuitByTailors$Plan;)V"⟩ ∈ wG := wG_of (List.mem_append_right _ (List.mem_append_right _ (List.mem_append_right _ (List.mem_append_left _ (List.mem_of_getElem? (i := 24) rfl))))) rfl
theorem wd_505 : Cond.selects "SuitByTailors$OrderSearch" ⟨"SuitByTailors$OrderSearch", "search", "(LSuitByTailors$Plan;)V"⟩ ⟨"SuitByTailors$OrderSearch", "search", "(LSuitByTailors$Plan;)V"⟩ ∈ wG := wG_of (List.mem_append_right _ (List.mem_append_right _ (List.mem_append_right _ (List.mem_append_left _ (List.mem_of_getElem? (i := 25) rfl))))) rfl
theorem wd_506 : Cond.code ⟨"SuitByTailors$OrderSearch", "search", "(LSuitByTailors$Plan;)V"⟩ prog_5_method_2_code 2 none ∈ wG := wG_of (List.mem_append_right _ (List.mem_append_right _ (List.mem_append_right _ (List.mem_append_left _ (List.mem_of_getElem? (i := 26) rfl))))) rfl
theorem wd_507 : Cond.constant "SuitByTailors$OrderSearch" 34 (2147483647 : Int32) ∈ wG := wG_of (List.mem_append_right _ (List.mem_append_right _ (List.mem_append_right _ (List.mem_append_left _ (List.mem_of_getElem? (i := 27) rfl))))) rfl
theorem wd_508 : Cond.methodLink "SuitByTailors$OrderSearch" 35 ⟨"SuitByTailors$OrderSearch", "tryPlace", "(LSuitByTailors$Plan;II)V"⟩ ∈ wG := wG_of (List.mem_append_right _ (List.mem_append_right _ (List.mem_append_right _ (List.mem_append_left _ (List.mem_of_getElem? (i := 28) rfl))))) rfl
theorem wd_510 : Cond.instanceMethod ⟨"SuitByTailors$OrderSearch", "tryPlace", "(LSuitByTailors$Plan;II)V"⟩ ∈ wG := wG_of (List.mem_append_right _ (List.mem_append_right _ (List.mem_append_right _ (List.mem_append_left _ (List.mem_of_getElem? (i := 30) rfl))))) rfl
theorem wd_511 : Cond.code ⟨"SuitByTailors$OrderSearch", "tryPlace", "(LSuitByTailors$Plan;II)V"⟩ prog_5_method_3_code 5 none ∈ wG := wG_of (List.mem_append_right _ (List.mem_append_right _ (List.mem_append_right _ (List.mem_append_left _ (List.mem_of_getElem? (i := 31) rfl))))) rfl
theorem wd_512 : Cond.methodLink "SuitByTailors$OrderSearch" 44 ⟨"SuitByTailors$OrderSearch", "isPlaced", "(I)Z"⟩ ∈ wG := wG_of (List.mem_append_right _ (List.mem_append_right _ (List.mem_append_right _ (List.mem_append_left _ (List.mem_of_getElem? (i := 32) rfl))))) rfl
theorem wd_514 : Cond.instanceMethod ⟨"SuitByTailors$OrderSearch", "isPlaced", "(I)Z"⟩ ∈ wG := wG_of (List.mem_append_right _ (List.mem_append_right _ (List.mem_append_right _ (List.mem_append_left _ (List.mem_of_getElem? (i := 34) rfl))))) rfl
theorem wd_515 : Cond.code ⟨"SuitByTailors$OrderSearch", "isPlaced", "(I)Z"⟩ prog_5_method_6_code 2 (some .boolean) ∈ wG := wG_of (List.mem_append_right _ (List.mem_append_right _ (List.mem_append_right _ (List.mem_append_left _ (List.mem_of_getElem? (i := 35) rfl))))) rfl
theorem wd_516 : Cond.methodLink "SuitByTailors$OrderSearch" 48 ⟨"SuitByTailors$OrderSearch", "tryPart", "(LSuitByTailors$Plan;III)V"⟩ ∈ wG := wG_of (List.mem_append_right _ (List.mem_append_right _ (List.mem_append_right _ (List.mem_append_left _ (List.mem_of_getElem? (i := 36) rfl))))) rfl
theorem wd_518 : Cond.instanceMethod ⟨"SuitByTailors$OrderSearch", "tryPart", "(LSuitByTailors$Plan;III)V"⟩ ∈ wG := wG_of (List.mem_append_right _ (List.mem_append_right _ (List.mem_append_right _ (List.mem_append_left _ (List.mem_of_getElem? (i := 38) rfl))))) rfl
theorem wd_519 : Cond.code ⟨"SuitByTailors$OrderSearch", "tryPart", "(LSuitByTailors$Plan;III)V"⟩ prog_5_method_4_code 6 none ∈ wG := wG_of (List.mem_append_right _ (List.mem_append_right _ (List.mem_append_right _ (List.mem_append_left _ (List.mem_of_getElem? (i := 39) rfl))))) rfl
theorem wd_520 : Cond.methodLink "SuitByTailors$OrderSearch" 55 ⟨"SuitByTailors$Plan", "slip", "(III)I"⟩ ∈ wG := wG_of (List.mem_append_right _ (List.mem_append_right _ (List.mem_append_right _ (List.mem_append_left _ (List.mem_of_getElem? (i := 40) rfl))))) rfl
theorem wd_521 : Cond.methodLink "SuitByTailors$OrderSearch" 59 ⟨"SuitByTailors$Plan", "cutLength", "(II)I"⟩ ∈ wG := wG_of (List.mem_append_right _ (List.mem_append_right _ (List.mem_append_right _ (List.mem_append_left _ (List.mem_of_getElem? (i := 41) rfl))))) rfl
theorem wd_522 : Cond.methodLink "SuitByTailors$OrderSearch" 63 ⟨"SuitByTailors$OrderSearch", "gapsWithPlaced", "(LSuitByTailors$Plan;I)I"⟩ ∈ wG := wG_of (List.mem_append_right _ (List.mem_append_right _ (List.mem_append_right _ (List.mem_append_left _ (List.mem_of_getElem? (i := 42) rfl))))) rfl
theorem wd_524 : Cond.instanceMethod ⟨"SuitByTailors$OrderSearch", "gapsWithPlaced", "(LSuitByTailors$Plan;I)I"⟩ ∈ wG := wG_of (List.mem_append_right _ (List.mem_append_right _ (List.mem_append_right _ (List.mem_append_left _ (List.mem_of_getElem? (i := 44) rfl))))) rfl
theorem wd_525 : Cond.code ⟨"SuitByTailors$OrderSearch", "gapsWithPlaced", "(LSuitByTailors$Plan;I)I"⟩ prog_5_method_5_code 7 (some .int) ∈ wG := wG_of (List.mem_append_right _ (List.mem_append_right _ (List.mem_append_right _ (List.mem_append_left _ (List.mem_of_getElem? (i := 45) rfl))))) rfl
theorem wd_526 : Cond.methodLink "SuitByTailors$OrderSearch" 76 ⟨"SuitByTailors$Plan", "gapOf", "(I[I)I"⟩ ∈ wG := wG_of (List.mem_append_right _ (List.mem_append_right _ (List.mem_append_right _ (List.mem_append_left _ (List.mem_of_getElem? (i := 46) rfl))))) rfl
theorem wd_527 : Cond.methodLink "SuitByTailorsLaw" 63 ⟨"SuitByTailors", "bribes", "(I)I"⟩ ∈ wG := wG_of (List.mem_append_right _ (List.mem_append_right _ (List.mem_append_right _ (List.mem_append_left _ (List.mem_of_getElem? (i := 47) rfl))))) rfl
theorem wd_528 : Cond.instanceMethod ⟨"SuitByTailors", "bribes", "(I)I"⟩ ∈ wG := wG_of (List.mem_append_right _ (List.mem_append_right _ (List.mem_append_right _ (List.mem_append_left _ (List.mem_of_getElem? (i := 48) rfl))))) rfl
theorem wd_529 : Cond.selects "SuitByTailors" ⟨"SuitByTailors", "bribes", "(I)I"⟩ ⟨"SuitByTailors", "bribes", "(I)I"⟩ ∈ wG := wG_of (List.mem_append_right _ (List.mem_append_right _ (List.mem_append_right _ (List.mem_append_left _ (List.mem_of_getElem? (i := 49) rfl))))) rfl
theorem wd_530 : Cond.code ⟨"SuitByTailors", "bribes", "(I)I"⟩ prog_1_method_13_code 6 (some .int) ∈ wG := wG_of (List.mem_append_right _ (List.mem_append_right _ (List.mem_append_right _ (List.mem_append_left _ (List.mem_of_getElem? (i := 50) rfl))))) rfl
theorem wd_531 : Cond.methodLink "SuitByTailors" 195 ⟨"SuitByTailors$Plan", "sumOfSet", "([II)I"⟩ ∈ wG := wG_of (List.mem_append_right _ (List.mem_append_right _ (List.mem_append_right _ (List.mem_append_left _ (List.mem_of_getElem? (i := 51) rfl))))) rfl
theorem wd_532 : Cond.instanceMethod ⟨"SuitByTailors$Plan", "sumOfSet", "([II)I"⟩ ∈ wG := wG_of (List.mem_append_right _ (List.mem_append_right _ (List.mem_append_right _ (List.mem_append_left _ (List.mem_of_getElem? (i := 52) rfl))))) rfl
theorem wd_533 : Cond.selects "SuitByTailors$Plan" ⟨"SuitByTailors$Plan", "sumOfSet", "([II)I"⟩ ⟨"SuitByTailors$Plan", "sumOfSet", "([II)I"⟩ ∈ wG := wG_of (List.mem_append_right _ (List.mem_append_right _ (List.mem_append_right _ (List.mem_append_left _ (List.mem_of_getElem? (i := 53) rfl))))) rfl
theorem wd_534 : Cond.code ⟨"SuitByTailors$Plan", "sumOfSet", "([II)I"⟩ prog_7_method_19_code 5 (some .int) ∈ wG := wG_of (List.mem_append_right _ (List.mem_append_right _ (List.mem_append_right _ (List.mem_append_left _ (List.mem_of_getElem? (i := 54) rfl))))) rfl
theorem wd_535 : Cond.methodLink "SuitByTailors" 199 ⟨"SuitByTailors", "isClosedByBribing", "(I)Z"⟩ ∈ wG := wG_of (List.mem_append_right _ (List.mem_append_right _ (List.mem_append_right _ (List.mem_append_left _ (List.mem_of_getElem? (i := 55) rfl))))) rfl
theorem wd_537 : Cond.instanceMethod ⟨"SuitByTailors", "isClosedByBribing", "(I)Z"⟩ ∈ wG := wG_of (List.mem_append_right _ (List.mem_append_right _ (List.mem_append_right _ (List.mem_append_left _ (List.mem_of_getElem? (i := 57) rfl))))) rfl
theorem wd_538 : Cond.code ⟨"SuitByTailors", "isClosedByBribing", "(I)Z"⟩ prog_1_method_33_code 3 (some .boolean) ∈ wG := wG_of (List.mem_append_right _ (List.mem_append_right _ (List.mem_append_right _ (List.mem_append_left _ (List.mem_of_getElem? (i := 58) rfl))))) rfl
theorem wd_539 : Cond.methodLink "SuitByTailorsLaw" 67 ⟨"SuitByTailors", "closed", "(I)I"⟩ ∈ wG := wG_of (List.mem_append_right _ (List.mem_append_right _ (List.mem_append_right _ (List.mem_append_left _ (List.mem_of_getElem? (i := 59) rfl))))) rfl
theorem wd_540 : Cond.instanceMethod ⟨"SuitByTailors", "closed", "(I)I"⟩ ∈ wG := wG_of (List.mem_append_right _ (List.mem_append_right _ (List.mem_append_right _ (List.mem_append_left _ (List.mem_of_getElem? (i := 60) rfl))))) rfl
theorem wd_541 : Cond.selects "SuitByTailors" ⟨"SuitByTailors", "closed", "(I)I"⟩ ⟨"SuitByTailors", "closed", "(I)I"⟩ ∈ wG := wG_of (List.mem_append_right _ (List.mem_append_right _ (List.mem_append_right _ (List.mem_append_left _ (List.mem_of_getElem? (i := 61) rfl))))) rfl
theorem wd_542 : Cond.code ⟨"SuitByTailors", "closed", "(I)I"⟩ prog_1_method_14_code 4 (some .int) ∈ wG := wG_of (List.mem_append_right _ (List.mem_append_right _ (List.mem_append_right _ (List.mem_append_left _ (List.mem_of_getElem? (i := 62) rfl))))) rfl
theorem wd_543 : Cond.methodLink "SuitByTailors" 202 ⟨"SuitByTailors", "levelSeams", "()V"⟩ ∈ wG := wG_of (List.mem_append_right _ (List.mem_append_right _ (List.mem_append_right _ (List.mem_append_left _ (List.mem_of_getElem? (i := 63) rfl))))) rfl
theorem wd_545 : Cond.instanceMethod ⟨"SuitByTailors", "levelSeams", "()V"⟩ ∈ wG := wG_of (List.mem_append_right _ (List.mem_append_right _ (List.mem_append_right _ (List.mem_append_left _ (List.mem_of_getElem? (i := 65) rfl))))) rfl
theorem wd_546 : Cond.code ⟨"SuitByTailors", "levelSeams", "()V"⟩ prog_1_method_34_code 4 none ∈ wG := wG_of (List.mem_append_right _ (List.mem_append_right _ (List.mem_append_right _ (List.mem_append_left _ (List.mem_of_getElem? (i := 66) rfl))))) rfl
theorem wd_547 : Cond.methodLink "SuitByTailors" 258 ⟨"java/lang/Math", "min", "(II)I"⟩ ∈ wG := wG_of (List.mem_append_right _ (List.mem_append_right _ (List.mem_append_right _ (List.mem_append_left _ (List.mem_of_getElem? (i := 67) rfl))))) rfl
theorem wd_548 : Cond.methodLink "SuitByTailorsLaw" 71 ⟨"SuitByTailors", "seen", "(III)I"⟩ ∈ wG := wG_of (List.mem_append_right _ (List.mem_append_right _ (List.mem_append_right _ (List.mem_append_left _ (List.mem_of_getElem? (i := 68) rfl))))) rfl
theorem wd_549 : Cond.instanceMethod ⟨"SuitByTailors", "seen", "(III)I"⟩ ∈ wG := wG_of (List.mem_append_right _ (List.mem_append_right _ (List.mem_append_right _ (List.mem_append_left _ (List.mem_of_getElem? (i := 69) rfl))))) rfl
theorem wd_550 : Cond.selects "SuitByTailors" ⟨"SuitByTailors", "seen", "(III)I"⟩ ⟨"SuitByTailors", "seen", "(III)I"⟩ ∈ wG := wG_of (List.mem_append_right _ (List.mem_append_right _ (List.mem_append_right _ (List.mem_append_left _ (List.mem_of_getElem? (i := 70) rfl))))) rfl
theorem wd_551 : Cond.code ⟨"SuitByTailors", "seen", "(III)I"⟩ prog_1_method_15_code 4 (some .int) ∈ wG := wG_of (List.mem_append_right _ (List.mem_append_right _ (List.mem_append_right _ (List.mem_append_left _ (List.mem_of_getElem? (i := 71) rfl))))) rfl
theorem wd_552 : Cond.methodLink "SuitByTailors" 205 ⟨"SuitByTailors$Plan", "hasTailor", "(I)Z"⟩ ∈ wG := wG_of (List.mem_append_right _ (List.mem_append_right _ (List.mem_append_right _ (List.mem_append_left _ (List.mem_of_getElem? (i := 72) rfl))))) rfl
theorem wd_553 : Cond.methodLink "SuitByTailors" 208 ⟨"SuitByTailors", "isLength", "(I)Z"⟩ ∈ wG := wG_of (List.mem_append_right _ (List.mem_append_right _ (List.mem_append_right _ (List.mem_append_left _ (List.mem_of_getElem? (i := 73) rfl))))) rfl
theorem wd_554 : Cond.static ⟨"SuitByTailors", "isLength", "(I)Z"⟩ ∈ wG := wG_of (List.mem_append_right _ (List.mem_append_right _ (List.mem_append_right _ (List.mem_append_left _ (List.mem_of_getElem? (i := 74) rfl))))) rfl
theorem wd_555 : Cond.code ⟨"SuitByTailors", "isLength", "(I)Z"⟩ prog_1_method_28_code 1 (some .boolean) ∈ wG := wG_of (List.mem_append_right _ (List.mem_append_right _ (List.mem_append_right _ (List.mem_append_left _ (List.mem_of_getElem? (i := 75) rfl))))) rfl
theorem wd_556 : Cond.methodLink "SuitByTailors" 211 ⟨"SuitByTailors$Sightings", "add", "(III)V"⟩ ∈ wG := wG_of (List.mem_append_right _ (List.mem_append_right _ (List.mem_append_right _ (List.mem_append_left _ (List.mem_of_getElem? (i := 76) rfl))))) rfl
theorem wd_557 : Cond.instanceMethod ⟨"SuitByTailors$Sightings", "add", "(III)V"⟩ ∈ wG := wG_of (List.mem_append_right _ (List.mem_append_right _ (List.mem_append_right _ (List.mem_append_left _ (List.mem_of_getElem? (i := 77) rfl))))) rfl
theorem wd_558 : Cond.selects "SuitByTailors$Sightings" ⟨"SuitByTailors$Sightings", "add", "(III)V"⟩ ⟨"SuitByTailors$Sightings", "add", "(III)V"⟩ ∈ wG := wG_of (List.mem_append_right _ (List.mem_append_right _ (List.mem_append_right _ (List.mem_append_left _ (List.mem_of_getElem? (i := 78) rfl))))) rfl
theorem wd_559 : Cond.code ⟨"SuitByTailors$Sightings", "add", "(III)V"⟩ prog_8_method_2_code 4 none ∈ wG := wG_of (List.mem_append_right _ (List.mem_append_right _ (List.mem_append_right _ (List.mem_append_left _ (List.mem_of_getElem? (i := 79) rfl))))) rfl
theorem wd_560 : Cond.methodLink "SuitByTailorsLaw" 76 ⟨"SuitByTailors", "forget", "()I"⟩ ∈ wG := wG_of (List.mem_append_right _ (List.mem_append_right _ (List.mem_append_right _ (List.mem_append_left _ (List.mem_of_getElem? (i := 80) rfl))))) rfl
theorem wd_561 : Cond.instanceMethod ⟨"SuitByTailors", "forget", "()I"⟩ ∈ wG := wG_of (List.mem_append_right _ (List.mem_append_right _ (List.mem_append_right _ (List.mem_append_left _ (List.mem_of_getElem? (i := 81) rfl))))) rfl
theorem wd_562 : Cond.selects "SuitByTailors" ⟨"SuitByTailors", "forget", "()I"⟩ ⟨"SuitByTailors", "forget", "()I"⟩ ∈ wG := wG_of (List.mem_append_right _ (List.mem_append_right _ (List.mem_append_right _ (List.mem_append_left _ (List.mem_of_getElem? (i := 82) rfl))))) rfl
theorem wd_563 : Cond.code ⟨"SuitByTailors", "forget", "()I"⟩ prog_1_method_16_code 2 (some .int) ∈ wG := wG_of (List.mem_append_right _ (List.mem_append_right _ (List.mem_append_right _ (List.mem_append_left _ (List.mem_of_getElem? (i := 83) rfl))))) rfl
theorem wd_564 : Cond.methodLink "SuitByTailorsLaw" 80 ⟨"SuitByTailors", "inch", "(II)I"⟩ ∈ wG := wG_of (List.mem_append_right _ (List.mem_append_right _ (List.mem_append_right _ (List.mem_append_left _ (List.mem_of_getElem? (i := 84) rfl))))) rfl
theorem wd_565 : Cond.instanceMethod ⟨"SuitByTailors", "inch", "(II)I"⟩ ∈ wG := wG_of (List.mem_append_right _ (List.mem_append_right _ (List.mem_append_right _ (List.mem_append_left _ (List.mem_of_getElem? (i := 85) rfl))))) rfl
theorem wd_566 : Cond.selects "SuitByTailors" ⟨"SuitByTailors", "inch", "(II)I"⟩ ⟨"SuitByTailors", "inch", "(II)I"⟩ ∈ wG := wG_of (List.mem_append_right _ (List.mem_append_right _ (List.mem_append_right _ (List.mem_append_left _ (List.mem_of_getElem? (i := 86) rfl))))) rfl
theorem wd_567 : Cond.code ⟨"SuitByTailors", "inch", "(II)I"⟩ prog_1_method_17_code 6 (some .int) ∈ wG := wG_of (List.mem_append_right _ (List.mem_append_right _ (List.mem_append_right _ (List.mem_append_left _ (List.mem_of_getElem? (i := 87) rfl))))) rfl
theorem wd_568 : Cond.methodLink "SuitByTailors" 215 ⟨"SuitByTailors$Sightings", "agreeWith", "(II)Z"⟩ ∈ wG := wG_of (List.mem_append_right _ (List.mem_append_right _ (List.mem_append_right _ (List.mem_append_left _ (List.mem_of_getElem? (i := 88) rfl))))) rfl
theorem wd_569 : Cond.instanceMethod ⟨"SuitByTailors$Sightings", "agreeWith", "(II)Z"⟩ ∈ wG := wG_of (List.mem_append_right _ (List.mem_append_right _ (List.mem_append_right _ (List.mem_append_left _ (List.mem_of_getElem? (i := 89) rfl))))) rfl
theorem wd_570 : Cond.selects "SuitByTailors$Sightings" ⟨"SuitByTailors$Sightings", "agreeWith", "(II)Z"⟩ ⟨"SuitByTailors$Sightings", "agreeWith", "(II)Z"⟩ ∈ wG := wG_of (List.mem_append_right _ (List.mem_append_right _ (List.mem_append_right _ (List.mem_append_left _ (List.mem_of_getElem? (i := 90) rfl))))) rfl
theorem wd_571 : Cond.code ⟨"SuitByTailors$Sightings", "agreeWith", "(II)Z"⟩ prog_8_method_3_code 4 (some .boolean) ∈ wG := wG_of (List.mem_append_right _ (List.mem_append_right _ (List.mem_append_right _ (List.mem_append_left _ (List.mem_of_getElem? (i := 91) rfl))))) rfl
theorem wd_572 : Cond.methodLink "SuitByTailors$Sightings" 25 ⟨"SuitByTailors$Plan", "byInch", "(II)I"⟩ ∈ wG := wG_of (List.mem_append_right _ (List.mem_append_right _ (List.mem_append_right _ (List.mem_append_left _ (List.mem_of_getElem? (i := 92) rfl))))) rfl
theorem wd_573 : Cond.methodLink "SuitByTailorsLaw" 84 ⟨"SuitByTailors", "added", "(II)I"⟩ ∈ wG := wG_of (List.mem_append_right _ (List.mem_append_right _ (List.mem_append_right _ (List.mem_append_left _ (List.mem_of_getElem? (i := 93) rfl))))) rfl
theorem wd_574 : Cond.instanceMethod ⟨"SuitByTailors", "added", "(II)I"⟩ ∈ wG := wG_of (List.mem_append_right _ (List.mem_append_right _ (List.mem_append_right _ (List.mem_append_left _ (List.mem_of_getElem? (i := 94) rfl))))) rfl
theorem wd_575 : Cond.selects "SuitByTailors" ⟨"SuitByTailors", "added", "(II)I"⟩ ⟨"SuitByTailors", "added", "(II)I"⟩ ∈ wG := wG_of (List.mem_append_right _ (List.mem_append_right _ (List.mem_append_right _ (List.mem_append_left _ (List.mem_of_getElem? (i := 95) rfl))))) rfl
theorem wd_576 : Cond.code ⟨"SuitByTailors", "added", "(II)I"⟩ prog_1_method_18_code 4 (some .int) ∈ wG := wG_of (List.mem_append_right _ (List.mem_append_right _ (List.mem_append_right _ (List.mem_append_left _ (List.mem_of_getElem? (i := 96) rfl))))) rfl
theorem wd_577 : Cond.methodLink "SuitByTailorsLaw" 88 ⟨"SuitByTailors", "bolts", "(I)I"⟩ ∈ wG := wG_of (List.mem_append_right _ (List.mem_append_right _ (List.mem_append_right _ (List.mem_append_left _ (List.mem_of_getElem? (i := 97) rfl))))) rfl
theorem wd_578 : Cond.instanceMethod ⟨"SuitByTailors", "bolts", "(I)I"⟩ ∈ wG := wG_of (List.mem_append_right _ (List.mem_append_right _ (List.mem_append_right _ (List.mem_append_left _ (List.mem_of_getElem? (i := 98) rfl))))) rfl
theorem wd_579 : Cond.selects "SuitByTailors" ⟨"SuitByTailors", "bolts", "(I)I"⟩ ⟨"SuitByTailors", "bolts", "(I)I"⟩ ∈ wG := wG_of (List.mem_append_right _ (List.mem_append_right _ (List.mem_append_right _ (List.mem_append_left _ (List.mem_of_getElem? (i := 99) rfl))))) rfl
theorem wd_580 : Cond.code ⟨"SuitByTailors", "bolts", "(I)I"⟩ prog_1_method_19_code 3 (some .int) ∈ wG := wG_of (List.mem_append_right _ (List.mem_append_right _ (List.mem_append_right _ (List.mem_append_left _ (List.mem_of_getElem? (i := 100) rfl))))) rfl
theorem wd_581 : Cond.methodLink "SuitByTailors" 219 ⟨"SuitByTailors$BoltSearch", "search", "(LSuitByTailors$Plan;[I)I"⟩ ∈ wG := wG_of (List.mem_append_right _ (List.mem_append_right _ (List.mem_append_right _ (List.mem_append_left _ (List.mem_of_getElem? (i := 101) rfl))))) rfl
theorem wd_582 : Cond.instanceMethod ⟨"SuitByTailors$BoltSearch", "search", "(LSuitByTailors$Plan;[I)I"⟩ ∈ wG := wG_of (List.mem_append_right _ (List.mem_append_right _ (List.mem_append_right _ (List.mem_append_left _ (List.mem_of_getElem? (i := 102) rfl))))) rfl
theorem wd_583 : Cond.selects "SuitByTailors$BoltSearch" ⟨"SuitByTailors$BoltSearch", "search", "(LSuitByTailors$Plan;[I)I"⟩ ⟨"SuitByTailors$BoltSearch", "search", "(LSuitByTailors$Plan;[I)I"⟩ ∈ wG := wG_of (List.mem_append_right _ (List.mem_append_right _ (List.mem_append_right _ (List.mem_append_left _ (List.mem_of_getElem? (i := 103) rfl))))) rfl
theorem wd_584 : Cond.code ⟨"SuitByTailors$BoltSearch", "search", "(LSuitByTailors$Plan;[I)I"⟩ prog_2_method_2_code 4 (some .int) ∈ wG := wG_of (List.mem_append_right _ (List.mem_append_right _ (List.mem_append_right _ (List.mem_append_left _ (List.mem_of_getElem? (i := 104) rfl))))) rfl
theorem wd_585 : Cond.methodLink "SuitByTailors$BoltSearch" 27 ⟨"SuitByTailors$BoltSearch", "findsBolts", "(LSuitByTailors$Plan;[III)Z"⟩ ∈ wG := wG_of (List.mem_append_right _ (List.mem_append_right _ (List.mem_append_right _ (List.mem_append_left _ (List.mem_of_getElem? (i := 105) rfl))))) rfl
theorem wd_587 : Cond.instanceMethod ⟨"SuitByTailors$BoltSearch", "findsBolts", "(LSuitByTailors$Plan;[III)Z"⟩ ∈ wG := wG_of (List.mem_append_right _ (List.mem_append_right _ (List.mem_append_right _ (List.mem_append_left _ (List.mem_of_getElem? (i := 107) rfl))))) rfl
theorem wd_588 : Cond.code ⟨"SuitByTailors$BoltSearch", "findsBolts", "(LSuitByTailors$Plan;[III)Z"⟩ prog_2_method_3_code 6 (some .boolean) ∈ wG := wG_of (List.mem_append_right _ (List.mem_append_right _ (List.mem_append_right _ (List.mem_append_left _ (List.mem_of_getElem? (i := 108) rfl))))) rfl
theorem wd_589 : Cond.methodLink "SuitByTailors$BoltSearch" 31 ⟨"SuitByTailors$BoltSearch", "findsRest", "(LSuitByTailors$Plan;[III)Z"⟩ ∈ wG := wG_of (List.mem_append_right _ (List.mem_append_right _ (List.mem_append_right _ (List.mem_append_left _ (List.mem_of_getElem? (i := 109) rfl))))) rfl
theorem wd_591 : Cond.instanceMethod ⟨"SuitByTailors$BoltSearch", "findsRest", "(LSuitByTailors$Plan;[III)Z"⟩ ∈ wG := wG_of (List.mem_append_right _ (List.mem_append_right _ (List.mem_append_right _ (List.mem_append_left _ (List.mem_of_getElem? (i := 111) rfl))))) rfl
theorem wd_592 : Cond.code ⟨"SuitByTailors$BoltSearch", "findsRest", "(LSuitByTailors$Plan;[III)Z"⟩ prog_2_method_4_code 7 (some .boolean) ∈ wG := wG_of (List.mem_append_right _ (List.mem_append_right _ (List.mem_append_right _ (List.mem_append_left _ (List.mem_of_getElem? (i := 112) rfl))))) rfl
theorem wd_593 : Cond.methodLink "SuitByTailors$BoltSearch" 37 ⟨"java/lang/Math", "max", "(II)I"⟩ ∈ wG := wG_of (List.mem_append_right _ (List.mem_append_right _ (List.mem_append_right _ (List.mem_append_left _ (List.mem_of_getElem? (i := 113) rfl))))) rfl
theorem wd_594 : Cond.methodLink "SuitByTailorsLaw" 92 ⟨"SuitByTailors", "coat", "(I)I"⟩ ∈ wG := wG_of (List.mem_append_right _ (List.mem_append_right _ (List.mem_append_right _ (List.mem_append_left _ (List.mem_of_getElem? (i := 114) rfl))))) rfl
theorem wd_595 : Cond.instanceMethod ⟨"SuitByTailors", "coat", "(I)I"⟩ ∈ wG := wG_of (List.mem_append_right _ (List.mem_append_right _ (List.mem_append_right _ (List.mem_append_left _ (List.mem_of_getElem? (i := 115) rfl))))) rfl
theorem wd_596 : Cond.selects "SuitByTailors" ⟨"SuitByTailors", "coat", "(I)I"⟩ ⟨"SuitByTailors", "coat", "(I)I"⟩ ∈ wG := wG_of (List.mem_append_right _ (List.mem_append_right _ (List.mem_append_right _ (List.mem_append_left _ (List.mem_of_getElem? (i := 116) rfl))))) rfl
theorem wd_597 : Cond.code ⟨"SuitByTailors", "coat", "(I)I"⟩ prog_1_method_20_code 9 (some .int) ∈ wG := wG_of (List.mem_append_right _ (List.mem_append_right _ (List.mem_append_right _ (List.mem_append_left _ (List.mem_of_getElem? (i := 117) rfl))))) rfl
theorem wd_598 : Cond.methodLink "SuitByTailors" 225 ⟨"java/lang/Math", "abs", "(I)I"⟩ ∈ wG := wG_of (List.mem_append_right _ (List.mem_append_right _ (List.mem_append_right _ (List.mem_append_left _ (List.mem_of_getElem? (i := 118) rfl))))) rfl
theorem wd_599 : Cond.methodLink "SuitByTailorsLaw" 96 ⟨"SuitByTailors", "pin", "(I)I"⟩ ∈ wG := wG_of (List.mem_append_right _ (List.mem_append_right _ (List.mem_append_right _ (List.mem_append_left _ (List.mem_of_getElem? (i := 119) rfl))))) rfl
theorem wd_600 : Cond.instanceMethod ⟨"SuitByTailors", "pin", "(I)I"⟩ ∈ wG := wG_of (List.mem_append_right _ (List.mem_append_right _ (List.mem_append_right _ (List.mem_append_left _ (List.mem_of_getElem? (i := 120) rfl))))) rfl
theorem wd_601 : Cond.selects "SuitByTailors" ⟨"SuitByTailors", "pin", "(I)I"⟩ ⟨"SuitByTailors", "pin", "(I)I"⟩ ∈ wG := wG_of (List.mem_append_right _ (List.mem_append_right _ (List.mem_append_right _ (List.mem_append_left _ (List.mem_of_getElem? (i := 121) rfl))))) rfl
theorem wd_602 : Cond.code ⟨"SuitByTailors", "pin", "(I)I"⟩ prog_1_method_21_code 4 (some .int) ∈ wG := wG_of (List.mem_append_right _ (List.mem_append_right _ (List.mem_append_right _ (List.mem_append_left _ (List.mem_of_getElem? (i := 122) rfl))))) rfl
theorem wd_603 : Cond.methodLink "SuitByTailors" 236 ⟨"SuitByTailors$Pins", "countIn", "(I)I"⟩ ∈ wG := wG_of (List.mem_append_right _ (List.mem_append_right _ (List.mem_append_right _ (List.mem_append_left _ (List.mem_of_getElem? (i := 123) rfl))))) rfl
theorem wd_604 : Cond.instanceMethod ⟨"SuitByTailors$Pins", "countIn", "(I)I"⟩ ∈ wG := wG_of (List.mem_append_right _ (List.mem_append_right _ (List.mem_append_right _ (List.mem_append_left _ (List.mem_of_getElem? (i := 124) rfl))))) rfl
theorem wd_605 : Cond.selects "SuitByTailors$Pins" ⟨"SuitByTailors$Pins", "countIn", "(I)I"⟩ ⟨"SuitByTailors$Pins", "countIn", "(I)I"⟩ ∈ wG := wG_of (List.mem_append_right _ (List.mem_append_right _ (List.mem_append_right _ (List.mem_append_left _ (List.mem_of_getElem? (i := 125) rfl))))) rfl
theorem wd_606 : Cond.code ⟨"SuitByTailors$Pins", "countIn", "(I)I"⟩ prog_6_method_3_code 4 (some .int) ∈ wG := wG_of (List.mem_append_right _ (List.mem_append_right _ (List.mem_append_right _ (List.mem_append_left _ (List.mem_of_getElem? (i := 126) rfl))))) rfl
theorem wd_607 : Cond.methodLink "SuitByTailors" 239 ⟨"SuitByTailors$Pins", "add", "(II)V"⟩ ∈ wG := wG_of (List.mem_append_right _ (List.mem_append_right _ (List.mem_append_right _ (List.mem_append_left _ (List.mem_of_getElem? (i := 127) rfl))))) rfl
theorem wd_608 : Cond.instanceMethod ⟨"SuitByTailors$Pins", "add", "(II)V"⟩ ∈ wG := wG_of (List.mem_append_right _ (List.mem_append_right _ (List.mem_append_right _ (List.mem_append_left _ (List.mem_of_getElem? (i := 128) rfl))))) rfl
theorem wd_609 : Cond.selects "SuitByTailors$Pins" ⟨"SuitByTailors$Pins", "add", "(II)V"⟩ ⟨"SuitByTailors$Pins", "add", "(II)V"⟩ ∈ wG := wG_of (List.mem_append_right _ (List.mem_append_right _ (List.mem_append_right _ (List.mem_append_left _ (List.mem_of_getElem? (i := 129) rfl))))) rfl
theorem wd_610 : Cond.code ⟨"SuitByTailors$Pins", "add", "(II)V"⟩ prog_6_method_2_code 3 none ∈ wG := wG_of (List.mem_append_right _ (List.mem_append_right _ (List.mem_append_right _ (List.mem_append_left _ (List.mem_of_getElem? (i := 130) rfl))))) rfl
theorem wd_611 : Cond.methodLink "SuitByTailorsLaw" 100 ⟨"SuitByTailors", "noPins", "()I"⟩ ∈ wG := wG_of (List.mem_append_right _ (List.mem_append_right _ (List.mem_append_right _ (List.mem_append_left _ (List.mem_of_getElem? (i := 131) rfl))))) rfl
theorem wd_612 : Cond.instanceMethod ⟨"SuitByTailors", "noPins", "()I"⟩ ∈ wG := wG_of (List.mem_append_right _ (List.mem_append_right _ (List.mem_append_right _ (List.mem_append_left _ (List.mem_of_getElem? (i := 132) rfl))))) rfl
theorem wd_613 : Cond.selects "SuitByTailors" ⟨"SuitByTailors", "noPins", "()I"⟩ ⟨"SuitByTailors", "noPins", "()I"⟩ ∈ wG := wG_of (List.mem_append_right _ (List.mem_append_right _ (List.mem_append_right _ (List.mem_append_left _ (List.mem_of_getElem? (i := 133) rfl))))) rfl
theorem wd_614 : Cond.code ⟨"SuitByTailors", "noPins", "()I"⟩ prog_1_method_22_code 2 (some .int) ∈ wG := wG_of (List.mem_append_right _ (List.mem_append_right _ (List.mem_append_right _ (List.mem_append_left _ (List.mem_of_getElem? (i := 134) rfl))))) rfl
theorem wd_615 : Cond.methodLink "SuitByTailorsLaw" 104 ⟨"SuitByTailors", "thumb", "(I)I"⟩ ∈ wG := wG_of (List.mem_append_right _ (List.mem_append_right _ (List.mem_append_right _ (List.mem_append_left _ (List.mem_of_getElem? (i := 135) rfl))))) rfl
theorem wd_616 : Cond.instanceMethod ⟨"SuitByTailors", "thumb", "(I)I"⟩ ∈ wG := wG_of (List.mem_append_right _ (List.mem_append_right _ (List.mem_append_right _ (List.mem_append_left _ (List.mem_of_getElem? (i := 136) rfl))))) rfl
theorem wd_617 : Cond.selects "SuitByTailors" ⟨"SuitByTailors", "thumb", "(I)I"⟩ ⟨"SuitByTailors", "thumb", "(I)I"⟩ ∈ wG := wG_of (List.mem_append_right _ (List.mem_append_right _ (List.mem_append_right _ (List.mem_append_left _ (List.mem_of_getElem? (i := 137) rfl))))) rfl
theorem wd_618 : Cond.code ⟨"SuitByTailors", "thumb", "(I)I"⟩ prog_1_method_23_code 2 (some .int) ∈ wG := wG_of (List.mem_append_right _ (List.mem_append_right _ (List.mem_append_right _ (List.mem_append_left _ (List.mem_of_getElem? (i := 138) rfl))))) rfl
theorem wd_619 : Cond.methodLink "SuitByTailorsLaw" 108 ⟨"SuitByTailors", "year", "(III)I"⟩ ∈ wG := wG_of (List.mem_append_right _ (List.mem_append_right _ (List.mem_append_right _ (List.mem_append_left _ (List.mem_of_getElem? (i := 139) rfl))))) rfl
theorem wd_620 : Cond.instanceMethod ⟨"SuitByTailors", "year", "(III)I"⟩ ∈ wG := wG_of (List.mem_append_right _ (List.mem_append_right _ (List.mem_append_right _ (List.mem_append_left _ (List.mem_of_getElem? (i := 140) rfl))))) rfl
theorem wd_621 : Cond.selects "SuitByTailors" ⟨"SuitByTailors", "year", "(III)I"⟩ ⟨"SuitByTailors", "year", "(III)I"⟩ ∈ wG := wG_of (List.mem_append_right _ (List.mem_append_right _ (List.mem_append_right _ (List.mem_append_left _ (List.mem_of_getElem? (i := 141) rfl))))) rfl
theorem wd_622 : Cond.code ⟨"SuitByTailors", "year", "(III)I"⟩ prog_1_method_24_code 7 (some .int) ∈ wG := wG_of (List.mem_append_right _ (List.mem_append_right _ (List.mem_append_right _ (List.mem_append_left _ (List.mem_of_getElem? (i := 142) rfl))))) rfl
theorem wd_623 : Cond.methodLink "SuitByTailors" 242 ⟨"SuitByTailors", "cutByBoy", "(I)V"⟩ ∈ wG := wG_of (List.mem_append_right _ (List.mem_append_right _ (List.mem_append_right _ (List.mem_append_left _ (List.mem_of_getElem? (i := 143) rfl))))) rfl
theorem wd_625 : Cond.instanceMethod ⟨"SuitByTailors", "cutByBoy", "(I)V"⟩ ∈ wG := wG_of (List.mem_append_right _ (List.mem_append_right _ (List.mem_append_right _ (List.mem_append_left _ (List.mem_of_getElem? (i := 145) rfl))))) rfl
theorem wd_626 : Cond.code ⟨"SuitByTailors", "cutByBoy", "(I)V"⟩ prog_1_method_32_code 3 none ∈ wG := wG_of (List.mem_append_right _ (List.mem_append_right _ (List.mem_append_right _ (List.mem_append_left _ (List.mem_of_getElem? (i := 146) rfl))))) rfl
theorem wd_627 : Cond.methodLink "SuitByTailorsLaw" 112 ⟨"SuitByTailors", "keep", "()I"⟩ ∈ wG := wG_of (List.mem_append_right _ (List.mem_append_right _ (List.mem_append_right _ (List.mem_append_left _ (List.mem_of_getElem? (i := 147) rfl))))) rfl
theorem wd_628 : Cond.instanceMethod ⟨"SuitByTailors", "keep", "()I"⟩ ∈ wG := wG_of (List.mem_append_right _ (List.mem_append_right _ (List.mem_append_right _ (List.mem_append_left _ (List.mem_of_getElem? (i := 148) rfl))))) rfl
theorem wd_629 : Cond.selects "SuitByTailors" ⟨"SuitByTailors", "keep", "()I"⟩ ⟨"SuitByTailors", "keep", "()I"⟩ ∈ wG := wG_of (List.mem_append_right _ (List.mem_append_right _ (List.mem_append_right _ (List.mem_append_left _ (List.mem_of_getElem? (i := 149) rfl))))) rfl
theorem wd_630 : Cond.code ⟨"SuitByTailors", "keep", "()I"⟩ prog_1_method_25_code 1 (some .int) ∈ wG := wG_of (List.mem_append_right _ (List.mem_append_right _ (List.mem_append_right _ (List.mem_append_left _ (List.mem_of_getElem? (i := 150) rfl))))) rfl
theorem wd_631 : Cond.methodLink "SuitByTailorsLaw" 116 ⟨"SuitByTailors", "back", "()I"⟩ ∈ wG := wG_of (List.mem_append_right _ (List.mem_append_right _ (List.mem_append_right _ (List.mem_append_left _ (List.mem_of_getElem? (i := 151) rfl))))) rfl
theorem wd_632 : Cond.instanceMethod ⟨"SuitByTailors", "back", "()I"⟩ ∈ wG := wG_of (List.mem_append_right _ (List.mem_append_right _ (List.mem_append_right _ (List.mem_append_left _ (List.mem_of_getElem? (i := 152) rfl))))) rfl
theorem wd_633 : Cond.selects "SuitByTailors" ⟨"SuitByTailors", "back", "()I"⟩ ⟨"SuitByTailors", "back", "()I"⟩ ∈ wG := wG_of (List.mem_append_right _ (List.mem_append_right _ (List.mem_append_right _ (List.mem_append_left _ (List.mem_of_getElem? (i := 153) rfl))))) rfl
theorem wd_634 : Cond.code ⟨"SuitByTailors", "back", "()I"⟩ prog_1_method_26_code 1 (some .int) ∈ wG := wG_of (List.mem_append_right _ (List.mem_append_right _ (List.mem_append_right _ (List.mem_append_left _ (List.mem_of_getElem? (i := 154) rfl))))) rfl
theorem wd_635 : Cond.methodLink "SuitByTailorsLaw" 120 ⟨"SuitByTailors", "count", "(I)I"⟩ ∈ wG := wG_of (List.mem_append_right _ (List.mem_append_right _ (List.mem_append_right _ (List.mem_append_left _ (List.mem_of_getElem? (i := 155) rfl))))) rfl
theorem wd_636 : Cond.instanceMethod ⟨"SuitByTailors", "count", "(I)I"⟩ ∈ wG := wG_of (List.mem_append_right _ (List.mem_append_right _ (List.mem_append_right _ (List.mem_append_left _ (List.mem_of_getElem? (i := 156) rfl))))) rfl
theorem wd_637 : Cond.selects "SuitByTailors" ⟨"SuitByTailors", "count", "(I)I"⟩ ⟨"SuitByTailors", "count", "(I)I"⟩ ∈ wG := wG_of (List.mem_append_right _ (List.mem_append_right _ (List.mem_append_right _ (List.mem_append_left _ (List.mem_of_getElem? (i := 157) rfl))))) rfl
theorem wd_638 : Cond.code ⟨"SuitByTailors", "count", "(I)I"⟩ prog_1_method_27_code 2 (some .int) ∈ wG := wG_of (List.mem_append_right _ (List.mem_append_right _ (List.mem_append_right _ (List.mem_append_left _ (List.mem_of_getElem? (i := 158) rfl))))) rfl
theorem wd_639 : Cond.classLink "SuitByTailorsLaw" 10 "SuitByTailorsModel" ∈ wG := wG_of (List.mem_append_right _ (List.mem_append_right _ (List.mem_append_right _ (List.mem_append_left _ (List.mem_of_getElem? (i := 159) rfl))))) rfl
theorem wd_640 : Cond.instantiable "SuitByTailorsModel" 23 ∈ wG := wG_of (List.mem_append_right _ (List.mem_append_right _ (List.mem_append_right _ (List.mem_append_left _ (List.mem_of_getElem? (i := 160) rfl))))) rfl
theorem wd_641 : Cond.methodLink "SuitByTailorsLaw" 12 ⟨"SuitByTailorsModel", "<init>", "()V"⟩ ∈ wG := wG_of (List.mem_append_right _ (List.mem_append_right _ (List.mem_append_right _ (List.mem_append_left _ (List.mem_of_getElem? (i := 161) rfl))))) rfl
theorem wd_642 : Cond.instanceMethod ⟨"SuitByTailorsModel", "<init>", "()V"⟩ ∈ wG := wG_of (List.mem_append_right _ (List.mem_append_right _ (List.mem_append_right _ (List.mem_append_left _ (List.mem_of_getElem? (i := 162) rfl))))) rfl
theorem wd_643 : Cond.code ⟨"SuitByTailorsModel", "<init>", "()V"⟩ prog_11_method_1_code 1 none ∈ wG := wG_of (List.mem_append_right _ (List.mem_append_right _ (List.mem_append_right _ (List.mem_append_left _ (List.mem_of_getElem? (i := 163) rfl))))) rfl
theorem wd_644 : Cond.methodLink "SuitByTailorsModel" 1 ⟨"java/lang/Object", "<init>", "()V"⟩ ∈ wG := wG_of (List.mem_append_right _ (List.mem_append_right _ (List.mem_append_right _ (List.mem_append_left _ (List.mem_of_getElem? (i := 164) rfl))))) rfl
theorem wd_645 : Cond.methodLink "SuitByTailorsModel" 62 ⟨"SuitByTailorsModel", "begins", "()V"⟩ ∈ wG := wG_of (List.mem_append_right _ (List.mem_append_right _ (List.mem_append_right _ (List.mem_append_left _ (List.mem_of_getElem? (i := 165) rfl))))) rfl
theorem wd_647 : Cond.instanceMethod ⟨"SuitByTailorsModel", "begins", "()V"⟩ ∈ wG := wG_of (List.mem_append_right _ (List.mem_append_right _ (List.mem_append_right _ (List.mem_append_left _ (List.mem_of_getElem? (i := 167) rfl))))) rfl
theorem wd_648 : Cond.code ⟨"SuitByTailorsModel", "begins", "()V"⟩ prog_11_method_9_code 1 none ∈ wG := wG_of (List.mem_append_right _ (List.mem_append_right _ (List.mem_append_right _ (List.mem_append_left _ (List.mem_of_getElem? (i := 168) rfl))))) rfl
theorem wd_649 : Cond.methodLink "SuitByTailorsModel" 65 ⟨"SuitByTailorsModel", "takes", "()V"⟩ ∈ wG := wG_of (List.mem_append_right _ (List.mem_append_right _ (List.mem_append_right _ (List.mem_append_left _ (List.mem_of_getElem? (i := 169) rfl))))) rfl
theorem wd_651 : Cond.instanceMethod ⟨"SuitByTailorsModel", "takes", "()V"⟩ ∈ wG := wG_of (List.mem_append_right _ (List.mem_append_right _ (List.mem_append_right _ (List.mem_append_left _ (List.mem_of_getElem? (i := 171) rfl))))) rfl
theorem wd_652 : Cond.code ⟨"SuitByTailorsModel", "takes", "()V"⟩ prog_11_method_10_code 2 none ∈ wG := wG_of (List.mem_append_right _ (List.mem_append_right _ (List.mem_append_right _ (List.mem_append_left _ (List.mem_of_getElem? (i := 172) rfl))))) rfl
theorem wd_653 : Cond.fieldLink "SuitByTailorsModel" 74 "SuitByTailorsModel" "length" "I" ∈ wG := wG_of (List.mem_append_right _ (List.mem_append_right _ (List.mem_append_right _ (List.mem_append_left _ (List.mem_of_getElem? (i := 173) rfl))))) rfl
theorem wd_654 : Cond.fieldLink "SuitByTailorsModel" 7 "SuitByTailorsModel" "text" "[B" ∈ wG := wG_of (List.mem_append_right _ (List.mem_append_right _ (List.mem_append_right _ (List.mem_append_left _ (List.mem_of_getElem? (i := 174) rfl))))) rfl
theorem wd_655 : Cond.fieldLink "SuitByTailorsModel" 78 "SuitByTailorsModel" "at" "I" ∈ wG := wG_of (List.mem_append_right _ (List.mem_append_right _ (List.mem_append_right _ (List.mem_append_left _ (List.mem_of_getElem? (i := 175) rfl))))) rfl
theorem wd_656 : Cond.fieldLink "SuitByTailorsModel" 13 "SuitByTailorsModel" "told" "[I" ∈ wG := wG_of (List.mem_append_right _ (List.mem_append_right _ (List.mem_append_right _ (List.mem_append_left _ (List.mem_of_getElem? (i := 176) rfl))))) rfl
theorem wd_657 : Cond.fieldLink "SuitByTailorsModel" 17 "SuitByTailorsModel" "tailors" "[I" ∈ wG := wG_of (List.mem_append_right _ (List.mem_append_right _ (List.mem_append_right _ (List.mem_append_left _ (List.mem_of_getElem? (i := 177) rfl))))) rfl
theorem wd_658 : Cond.fieldLink "SuitByTailorsModel" 20 "SuitByTailorsModel" "inches" "[I" ∈ wG := wG_of (List.mem_append_right _ (List.mem_append_right _ (List.mem_append_right _ (List.mem_append_left _ (List.mem_of_getElem? (i := 178) rfl))))) rfl
theorem wd_659 : Cond.fieldLink "SuitByTailorsModel" 23 "SuitByTailorsModel" "parts" "[I" ∈ wG := wG_of (List.mem_append_right _ (List.mem_append_right _ (List.mem_append_right _ (List.mem_append_left _ (List.mem_of_getElem? (i := 179) rfl))))) rfl
theorem wd_660 : Cond.fieldLink "SuitByTailorsModel" 26 "SuitByTailorsModel" "part" "[I" ∈ wG := wG_of (List.mem_append_right _ (List.mem_append_right _ (List.mem_append_right _ (List.mem_append_left _ (List.mem_of_getElem? (i := 180) rfl))))) rfl
theorem wd_661 : Cond.fieldLink "SuitByTailorsModel" 29 "SuitByTailorsModel" "seams" "[I" ∈ wG := wG_of (List.mem_append_right _ (List.mem_append_right _ (List.mem_append_right _ (List.mem_append_left _ (List.mem_of_getElem? (i := 181) rfl))))) rfl
theorem wd_662 : Cond.fieldLink "SuitByTailorsModel" 32 "SuitByTailorsModel" "seam" "[I" ∈ wG := wG_of (List.mem_append_right _ (List.mem_append_right _ (List.mem_append_right _ (List.mem_append_left _ (List.mem_of_getElem? (i := 182) rfl))))) rfl
theorem wd_663 : Cond.fieldLink "SuitByTailorsModel" 35 "SuitByTailorsModel" "slot" "[I" ∈ wG := wG_of (List.mem_append_right _ (List.mem_append_right _ (List.mem_append_right _ (List.mem_append_left _ (List.mem_of_getElem? (i := 183) rfl))))) rfl
theorem wd_664 : Cond.fieldLink "SuitByTailorsModel" 116 "SuitByTailorsModel" "kept" "I" ∈ wG := wG_of (List.mem_append_right _ (List.mem_append_right _ (List.mem_append_right _ (List.mem_append_left _ (List.mem_of_getElem? (i := 184) rfl))))) rfl
theorem wd_665 : Cond.fieldLink "SuitByTailorsModel" 113 "SuitByTailorsModel" "done" "I" ∈ wG := wG_of (List.mem_append_right _ (List.mem_append_right _ (List.mem_append_right _ (List.mem_append_left _ (List.mem_of_getElem? (i := 185) rfl))))) rfl
theorem wd_666 : Cond.fieldLink "SuitByTailorsModel" 107 "SuitByTailorsModel" "seens" "I" ∈ wG := wG_of (List.mem_append_right _ (List.mem_append_right _ (List.mem_append_right _ (List.mem_append_left _ (List.mem_of_getElem? (i := 186) rfl))))) rfl
theorem wd_667 : Cond.fieldLink "SuitByTailorsModel" 38 "SuitByTailorsModel" "saw" "[I" ∈ wG := wG_of (List.mem_append_right _ (List.mem_append_right _ (List.mem_append_right _ (List.mem_append_left _ (List.mem_of_getElem? (i := 187) rfl))))) rfl
theorem wd_668 : Cond.fieldLink "SuitByTailorsModel" 110 "SuitByTailorsModel" "pins" "I" ∈ wG := wG_of (List.mem_append_right _ (List.mem_append_right _ (List.mem_append_right _ (List.mem_append_left _ (List.mem_of_getElem? (i := 188) rfl))))) rfl
theorem wd_669 : Cond.fieldLink "SuitByTailorsModel" 41 "SuitByTailorsModel" "pinned" "[I" ∈ wG := wG_of (List.mem_append_right _ (List.mem_append_right _ (List.mem_append_right _ (List.mem_append_left _ (List.mem_of_getElem? (i := 189) rfl))))) rfl
theorem wd_670 : Cond.fieldLink "SuitByTailorsModel" 44 "SuitByTailorsModel" "row" "[I" ∈ wG := wG_of (List.mem_append_right _ (List.mem_append_right _ (List.mem_append_right _ (List.mem_append_left _ (List.mem_of_getElem? (i := 190) rfl))))) rfl
theorem wd_671 : Cond.fieldLink "SuitByTailorsModel" 47 "SuitByTailorsModel" "best" "[I" ∈ wG := wG_of (List.mem_append_right _ (List.mem_append_right _ (List.mem_append_right _ (List.mem_append_left _ (List.mem_of_getElem? (i := 191) rfl))))) rfl
theorem wd_672 : Cond.fieldLink "SuitByTailorsModel" 50 "SuitByTailorsModel" "cut" "[I" ∈ wG := wG_of (List.mem_append_right _ (List.mem_append_right _ (List.mem_append_right _ (List.mem_append_left _ (List.mem_of_getElem? (i := 192) rfl))))) rfl
theorem wd_673 : Cond.fieldLink "SuitByTailorsModel" 53 "SuitByTailorsModel" "sums" "[I" ∈ wG := wG_of (List.mem_append_right _ (List.mem_append_right _ (List.mem_append_right _ (List.mem_append_left _ (List.mem_of_getElem? (i := 193) rfl))))) rfl
theorem wd_674 : Cond.fieldLink "SuitByTailorsModel" 56 "SuitByTailorsModel" "least" "[I" ∈ wG := wG_of (List.mem_append_right _ (List.mem_append_right _ (List.mem_append_right _ (List.mem_append_left _ (List.mem_of_getElem? (i := 194) rfl))))) rfl
theorem wd_675 : Cond.fieldLink "SuitByTailorsModel" 59 "SuitByTailorsModel" "got" "[I" ∈ wG := wG_of (List.mem_append_right _ (List.mem_append_right _ (List.mem_append_right _ (List.mem_append_left _ (List.mem_of_getElem? (i := 195) rfl))))) rfl
theorem wd_676 : Cond.lays "SuitByTailorsModel" "SuitByTailorsModel" "length" "I" ∈ wG := wG_of (List.mem_append_right _ (List.mem_append_right _ (List.mem_append_right _ (List.mem_append_left _ (List.mem_of_getElem? (i := 196) rfl))))) rfl
theorem wd_678 : Cond.laysFinal "SuitByTailorsModel" "SuitByTailorsModel" "text" "[B" ∈ wG := wG_of (List.mem_append_right _ (List.mem_append_right _ (List.mem_append_right _ (List.mem_append_left _ (List.mem_of_getElem? (i := 198) rfl))))) rfl
theorem wd_680 : Cond.lays "SuitByTailorsModel" "SuitByTailorsModel" "at" "I" ∈ wG := wG_of (List.mem_append_right _ (List.mem_append_right _ (List.mem_append_right _ (List.mem_append_left _ (List.mem_of_getElem? (i := 200) rfl))))) rfl
theorem wd_682 : Cond.laysFinal "SuitByTailorsModel" "SuitByTailorsModel" "told" "[I" ∈ wG := wG_of (List.mem_append_right _ (List.mem_append_right _ (List.mem_append_right _ (List.mem_append_left _ (List.mem_of_getElem? (i := 202) rfl))))) rfl
theorem wd_684 : Cond.laysFinal "SuitByTailorsModel" "SuitByTailorsModel" "tailors" "[I" ∈ wG := wG_of (List.mem_append_right _ (List.mem_append_right _ (List.mem_append_right _ (List.mem_append_left _ (List.mem_of_getElem? (i := 204) rfl))))) rfl
theorem wd_686 : Cond.laysFinal "SuitByTailorsModel" "SuitByTailorsModel" "inches" "[I" ∈ wG := wG_of (List.mem_append_right _ (List.mem_append_right _ (List.mem_append_right _ (List.mem_append_left _ (List.mem_of_getElem? (i := 206) rfl))))) rfl
theorem wd_688 : Cond.laysFinal "SuitByTailorsModel" "SuitByTailorsModel" "parts" "[I" ∈ wG := wG_of (List.mem_append_right _ (List.mem_append_right _ (List.mem_append_right _ (List.mem_append_left _ (List.mem_of_getElem? (i := 208) rfl))))) rfl
theorem wd_690 : Cond.laysFinal "SuitByTailorsModel" "SuitByTailorsModel" "part" "[I" ∈ wG := wG_of (List.mem_append_right _ (List.mem_append_right _ (List.mem_append_right _ (List.mem_append_left _ (List.mem_of_getElem? (i := 210) rfl))))) rfl
theorem wd_692 : Cond.laysFinal "SuitByTailorsModel" "SuitByTailorsModel" "seams" "[I" ∈ wG := wG_of (List.mem_append_right _ (List.mem_append_right _ (List.mem_append_right _ (List.mem_append_left _ (List.mem_of_getElem? (i := 212) rfl))))) rfl
theorem wd_694 : Cond.laysFinal "SuitByTailorsModel" "SuitByTailorsModel" "seam" "[I" ∈ wG := wG_of (List.mem_append_right _ (List.mem_append_right _ (List.mem_append_right _ (List.mem_append_left _ (List.mem_of_getElem? (i := 214) rfl))))) rfl
theorem wd_696 : Cond.laysFinal "SuitByTailorsModel" "SuitByTailorsModel" "slot" "[I" ∈ wG := wG_of (List.mem_append_right _ (List.mem_append_right _ (List.mem_append_right _ (List.mem_append_left _ (List.mem_of_getElem? (i := 216) rfl))))) rfl
theorem wd_698 : Cond.lays "SuitByTailorsModel" "SuitByTailorsModel" "kept" "I" ∈ wG := wG_of (List.mem_append_right _ (List.mem_append_right _ (List.mem_append_right _ (List.mem_append_left _ (List.mem_of_getElem? (i := 218) rfl))))) rfl
theorem wd_700 : Cond.lays "SuitByTailorsModel" "SuitByTailorsModel" "done" "I" ∈ wG := wG_of (List.mem_append_right _ (List.mem_append_right _ (List.mem_append_right _ (List.mem_append_left _ (List.mem_of_getElem? (i := 220) rfl))))) rfl
theorem wd_702 : Cond.lays "SuitByTailorsModel" "SuitByTailorsModel" "seens" "I" ∈ wG := wG_of (List.mem_append_right _ (List.mem_append_right _ (List.mem_append_right _ (List.mem_append_left _ (List.mem_of_getElem? (i := 222) rfl))))) rfl
theorem wd_704 : Cond.laysFinal "SuitByTailorsModel" "SuitByTailorsModel" "saw" "[I" ∈ wG := wG_of (List.mem_append_right _ (List.mem_append_right _ (List.mem_append_right _ (List.mem_append_left _ (List.mem_of_getElem? (i := 224) rfl))))) rfl
theorem wd_706 : Cond.lays "SuitByTailorsModel" "SuitByTailorsModel" "pins" "I" ∈ wG := wG_of (List.mem_append_right _ (List.mem_append_right _ (List.mem_append_right _ (List.mem_append_left _ (List.mem_of_getElem? (i := 226) rfl))))) rfl
theorem wd_708 : Cond.laysFinal "SuitByTailorsModel" "SuitByTailorsModel" "pinned" "[I" ∈ wG := wG_of (List.mem_append_right _ (List.mem_append_right _ (List.mem_append_right _ (List.mem_append_left _ (List.mem_of_getElem? (i := 228) rfl))))) rfl
theorem wd_710 : Cond.laysFinal "SuitByTailorsModel" "SuitByTailorsModel" "row" "[I" ∈ wG := wG_of (List.mem_append_right _ (List.mem_append_right _ (List.mem_append_right _ (List.mem_append_left _ (List.mem_of_getElem? (i := 230) rfl))))) rfl
theorem wd_712 : Cond.laysFinal "SuitByTailorsModel" "SuitByTailorsModel" "best" "[I" ∈ wG := wG_of (List.mem_append_right _ (List.mem_append_right _ (List.mem_append_right _ (List.mem_append_left _ (List.mem_of_getElem? (i := 232) rfl))))) rfl
theorem wd_714 : Cond.laysFinal "SuitByTailorsModel" "SuitByTailorsModel" "cut" "[I" ∈ wG := wG_of (List.mem_append_right _ (List.mem_append_right _ (List.mem_append_right _ (List.mem_append_left _ (List.mem_of_getElem? (i := 234) rfl))))) rfl
theorem wd_716 : Cond.laysFinal "SuitByTailorsModel" "SuitByTailorsModel" "sums" "[I" ∈ wG := wG_of (List.mem_append_right _ (List.mem_append_right _ (List.mem_append_right _ (List.mem_append_left _ (List.mem_of_getElem? (i := 236) rfl))))) rfl
theorem wd_718 : Cond.laysFinal "SuitByTailorsModel" "SuitByTailorsModel" "least" "[I" ∈ wG := wG_of (List.mem_append_right _ (List.mem_append_right _ (List.mem_append_right _ (List.mem_append_left _ (List.mem_of_getElem? (i := 238) rfl))))) rfl
theorem wd_720 : Cond.laysFinal "SuitByTailorsModel" "SuitByTailorsModel" "got" "[I" ∈ wG := wG_of (List.mem_append_right _ (List.mem_append_right _ (List.mem_append_right _ (List.mem_append_right _ (List.mem_of_getElem? (i := 0) rfl))))) rfl
theorem wd_723 : Cond.methodLink "SuitByTailorsLaw" 19 ⟨"SuitByTailorsModel", "write", "(IJ)I"⟩ ∈ wG := wG_of (List.mem_append_right _ (List.mem_append_right _ (List.mem_append_right _ (List.mem_append_right _ (List.mem_of_getElem? (i := 3) rfl))))) rfl
theorem wd_724 : Cond.instanceMethod ⟨"SuitByTailorsModel", "write", "(IJ)I"⟩ ∈ wG := wG_of (List.mem_append_right _ (List.mem_append_right _ (List.mem_append_right _ (List.mem_append_right _ (List.mem_of_getElem? (i := 4) rfl))))) rfl
theorem wd_725 : Cond.selects "SuitByTailorsModel" ⟨"SuitByTailorsModel", "write", "(IJ)I"⟩ ⟨"SuitByTailorsModel", "write", "(IJ)I"⟩ ∈ wG := wG_of (List.mem_append_right _ (List.mem_append_right _ (List.mem_append_right _ (List.mem_append_right _ (List.mem_of_getElem? (i := 5) rfl))))) rfl
theorem wd_726 : Cond.code ⟨"SuitByTailorsModel", "write", "(IJ)I"⟩ prog_11_method_3_code 5 (some .int) ∈ wG := wG_of (List.mem_append_right _ (List.mem_append_right _ (List.mem_append_right _ (List.mem_append_right _ (List.mem_of_getElem? (i := 6) rfl))))) rfl
theorem wd_727 : Cond.constantLong "SuitByTailorsModel" 68 (8 : Int64) ∈ wG := wG_of (List.mem_append_right _ (List.mem_append_right _ (List.mem_append_right _ (List.mem_append_right _ (List.mem_of_getElem? (i := 7) rfl))))) rfl
theorem wd_728 : Cond.methodLink "SuitByTailorsModel" 70 ⟨"SuitByTailorsModel", "in", "(JJJ)Z"⟩ ∈ wG := wG_of (List.mem_append_right _ (List.mem_append_right _ (List.mem_append_right _ (List.mem_append_right _ (List.mem_of_getElem? (i := 8) rfl))))) rfl
theorem wd_729 : Cond.static ⟨"SuitByTailorsModel", "in", "(JJJ)Z"⟩ ∈ wG := wG_of (List.mem_append_right _ (List.mem_append_right _ (List.mem_append_right _ (List.mem_append_right _ (List.mem_of_getElem? (i := 9) rfl))))) rfl
theorem wd_730 : Cond.code ⟨"SuitByTailorsModel", "in", "(JJJ)Z"⟩ prog_11_method_2_code 6 (some .boolean) ∈ wG := wG_of (List.mem_append_right _ (List.mem_append_right _ (List.mem_append_right _ (List.mem_append_right _ (List.mem_of_getElem? (i := 10) rfl))))) rfl
theorem wd_731 : Cond.methodLink "SuitByTailorsLaw" 24 ⟨"SuitByTailorsModel", "wipe", "()I"⟩ ∈ wG := wG_of (List.mem_append_right _ (List.mem_append_right _ (List.mem_append_right _ (List.mem_append_right _ (List.mem_of_getElem? (i := 11) rfl))))) rfl
theorem wd_732 : Cond.instanceMethod ⟨"SuitByTailorsModel", "wipe", "()I"⟩ ∈ wG := wG_of (List.mem_append_right _ (List.mem_append_right _ (List.mem_append_right _ (List.mem_append_right _ (List.mem_of_getElem? (i := 12) rfl))))) rfl
theorem wd_733 : Cond.selects "SuitByTailorsModel" ⟨"SuitByTailorsModel", "wipe", "()I"⟩ ⟨"SuitByTailorsModel", "wipe", "()I"⟩ ∈ wG := wG_of (List.mem_append_right _ (List.mem_append_right _ (List.mem_append_right _ (List.mem_append_right _ (List.mem_of_getElem? (i := 13) rfl))))) rfl
theorem wd_734 : Cond.code ⟨"SuitByTailorsModel", "wipe", "()I"⟩ prog_11_method_4_code 2 (some .int) ∈ wG := wG_of (List.mem_append_right _ (List.mem_append_right _ (List.mem_append_right _ (List.mem_append_right _ (List.mem_of_getElem? (i := 14) rfl))))) rfl
theorem wd_735 : Cond.methodLink "SuitByTailorsLaw" 28 ⟨"SuitByTailorsModel", "fault", "()I"⟩ ∈ wG := wG_of (List.mem_append_right _ (List.mem_append_right _ (List.mem_append_right _ (List.mem_append_right _ (List.mem_of_getElem? (i := 15) rfl))))) rfl
theorem wd_736 : Cond.instanceMethod ⟨"SuitByTailorsModel", "fault", "()I"⟩ ∈ wG := wG_of (List.mem_append_right _ (List.mem_append_right _ (List.mem_append_right _ (List.mem_append_right _ (List.mem_of_getElem? (i := 16) rfl))))) rfl
theorem wd_737 : Cond.selects "SuitByTailorsModel" ⟨"SuitByTailorsModel", "fault", "()I"⟩ ⟨"SuitByTailorsModel", "fault", "()I"⟩ ∈ wG := wG_of (List.mem_append_right _ (List.mem_append_right _ (List.mem_append_right _ (List.mem_append_right _ (List.mem_of_getElem? (i := 17) rfl))))) rfl
theorem wd_738 : Cond.code ⟨"SuitByTailorsModel", "fault", "()I"⟩ prog_11_method_11_code 2 (some .int) ∈ wG := wG_of (List.mem_append_right _ (List.mem_append_right _ (List.mem_append_right _ (List.mem_append_right _ (List.mem_of_getElem? (i := 18) rfl))))) rfl
theorem wd_739 : Cond.methodLink "SuitByTailorsModel" 119 ⟨"SuitByTailorsModel", "isItem", "()Z"⟩ ∈ wG := wG_of (List.mem_append_right _ (List.mem_append_right _ (List.mem_append_right _ (List.mem_append_right _ (List.mem_of_getElem? (i := 19) rfl))))) rfl
theorem wd_741 : Cond.instanceMethod ⟨"SuitByTailorsModel", "isItem", "()Z"⟩ ∈ wG := wG_of (List.mem_append_right _ (List.mem_append_right _ (List.mem_append_right _ (List.mem_append_right _ (List.mem_of_getElem? (i := 21) rfl))))) rfl
theorem wd_742 : Cond.code ⟨"SuitByTailorsModel", "isItem", "()Z"⟩ prog_11_method_7_code 5 (some .boolean) ∈ wG := wG_of (List.mem_append_right _ (List.mem_append_right _ (List.mem_append_right _ (List.mem_append_right _ (List.mem_of_getElem? (i := 22) rfl))))) rfl
theorem wd_743 : Cond.methodLink "SuitByTailorsModel" 87 ⟨"SuitByTailorsModel", "numbers", "(I)I"⟩ ∈ wG := wG_of (List.mem_append_right _ (List.mem_append_right _ (List.mem_append_right _ (List.mem_append_right _ (List.mem_of_getElem? (i := 23) rfl))))) rfl
theorem wd_744 : Cond.static ⟨"SuitByTailorsModel", "numbers", "(I)I"⟩ ∈ wG := wG_of (List.mem_append_right _ (List.mem_append_right _ (List.mem_append_right _ (List.mem_append_right _ (List.mem_of_getElem? (i := 24) rfl))))) rfl
theorem wd_745 : Cond.code ⟨"SuitByTailorsModel", "numbers", "(I)I"⟩ prog_11_method_6_code 1 (some .int) ∈ wG := wG_of (List.mem_append_right _ (List.mem_append_right _ (List.mem_append_right _ (List.mem_append_right _ (List.mem_of_getElem? (i := 25) rfl))))) rfl
theorem wd_746 : Cond.methodLink "SuitByTailorsModel" 91 ⟨"SuitByTailorsModel", "number", "()I"⟩ ∈ wG := wG_of (List.mem_append_right _ (List.mem_append_right _ (List.mem_append_right _ (List.mem_append_right _ (List.mem_of_getElem? (i := 26) rfl))))) rfl
theorem wd_748 : Cond.instanceMethod ⟨"SuitByTailorsModel", "number", "()I"⟩ ∈ wG := wG_of (List.mem_append_right _ (List.mem_append_right _ (List.mem_append_right _ (List.mem_append_right _ (List.mem_of_getElem? (i := 28) rfl))))) rfl
theorem wd_749 : Cond.code ⟨"SuitByTailorsModel", "number", "()I"⟩ prog_11_method_5_code 3 (some .int) ∈ wG := wG_of (List.mem_append_right _ (List.mem_append_right _ (List.mem_append_right _ (List.mem_append_right _ (List.mem_of_getElem? (i := 29) rfl))))) rfl
theorem wd_750 : Cond.constantLong "SuitByTailorsModel" 81 (48 : Int64) ∈ wG := wG_of (List.mem_append_right _ (List.mem_append_right _ (List.mem_append_right _ (List.mem_append_right _ (List.mem_of_getElem? (i := 30) rfl))))) rfl
theorem wd_751 : Cond.constantLong "SuitByTailorsModel" 83 (57 : Int64) ∈ wG := wG_of (List.mem_append_right _ (List.mem_append_right _ (List.mem_append_right _ (List.mem_append_right _ (List.mem_of_getElem? (i := 31) rfl))))) rfl
theorem wd_752 : Cond.constantLong "SuitByTailorsModel" 85 (3 : Int64) ∈ wG := wG_of (List.mem_append_right _ (List.mem_append_right _ (List.mem_append_right _ (List.mem_append_right _ (List.mem_of_getElem? (i := 32) rfl))))) rfl
theorem wd_753 : Cond.methodLink "SuitByTailorsModel" 95 ⟨"SuitByTailorsModel", "isGood", "(I)Z"⟩ ∈ wG := wG_of (List.mem_append_right _ (List.mem_append_right _ (List.mem_append_right _ (List.mem_append_right _ (List.mem_of_getElem? (i := 33) rfl))))) rfl
theorem wd_755 : Cond.instanceMethod ⟨"SuitByTailorsModel", "isGood", "(I)Z"⟩ ∈ wG := wG_of (List.mem_append_right _ (List.mem_append_right _ (List.mem_append_right _ (List.mem_append_right _ (List.mem_of_getElem? (i := 35) rfl))))) rfl
theorem wd_756 : Cond.code ⟨"SuitByTailorsModel", "isGood", "(I)Z"⟩ prog_11_method_8_code 4 (some .boolean) ∈ wG := wG_of (List.mem_append_right _ (List.mem_append_right _ (List.mem_append_right _ (List.mem_append_right _ (List.mem_of_getElem? (i := 36) rfl))))) rfl
theorem wd_757 : Cond.constantLong "SuitByTailorsModel" 99 (80 : Int64) ∈ wG := wG_of (List.mem_append_right _ (List.mem_append_right _ (List.mem_append_right _ (List.mem_append_right _ (List.mem_of_getElem? (i := 37) rfl))))) rfl
theorem wd_758 : Cond.constantLong "SuitByTailorsModel" 101 (120 : Int64) ∈ wG := wG_of (List.mem_append_right _ (List.mem_append_right _ (List.mem_append_right _ (List.mem_append_right _ (List.mem_of_getElem? (i := 38) rfl))))) rfl
theorem wd_759 : Cond.constantLong "SuitByTailorsModel" 103 (10 : Int64) ∈ wG := wG_of (List.mem_append_right _ (List.mem_append_right _ (List.mem_append_right _ (List.mem_append_right _ (List.mem_of_getElem? (i := 39) rfl))))) rfl
theorem wd_760 : Cond.constantLong "SuitByTailorsModel" 105 (199 : Int64) ∈ wG := wG_of (List.mem_append_right _ (List.mem_append_right _ (List.mem_append_right _ (List.mem_append_right _ (List.mem_of_getElem? (i := 40) rfl))))) rfl
theorem wd_761 : Cond.methodLink "SuitByTailorsLaw" 32 ⟨"SuitByTailorsModel", "lay", "()I"⟩ ∈ wG := wG_of (List.mem_append_right _ (List.mem_append_right _ (List.mem_append_right _ (List.mem_append_right _ (List.mem_of_getElem? (i := 41) rfl))))) rfl
theorem wd_762 : Cond.instanceMethod ⟨"SuitByTailorsModel", "lay", "()I"⟩ ∈ wG := wG_of (List.mem_append_right _ (List.mem_append_right _ (List.mem_append_right _ (List.mem_append_right _ (List.mem_of_getElem? (i := 42) rfl))))) rfl
theorem wd_763 : Cond.selects "SuitByTailorsModel" ⟨"SuitByTailorsModel", "lay", "()I"⟩ ⟨"SuitByTailorsModel", "lay", "()I"⟩ ∈ wG := wG_of (List.mem_append_right _ (List.mem_append_right _ (List.mem_append_right _ (List.mem_append_right _ (List.mem_of_getElem? (i := 43) rfl))))) rfl
theorem wd_764 : Cond.code ⟨"SuitByTailorsModel", "lay", "()I"⟩ prog_11_method_12_code 1 (some .int) ∈ wG := wG_of (List.mem_append_right _ (List.mem_append_right _ (List.mem_append_right _ (List.mem_append_right _ (List.mem_of_getElem? (i := 44) rfl))))) rfl
theorem wd_765 : Cond.methodLink "SuitByTailorsModel" 123 ⟨"SuitByTailorsModel", "fault", "()I"⟩ ∈ wG := wG_of (List.mem_append_right _ (List.mem_append_right _ (List.mem_append_right _ (List.mem_append_right _ (List.mem_of_getElem? (i := 45) rfl))))) rfl
theorem wd_766 : Cond.methodLink "SuitByTailorsLaw" 37 ⟨"SuitByTailorsModel", "part", "(II)I"⟩ ∈ wG := wG_of (List.mem_append_right _ (List.mem_append_right _ (List.mem_append_right _ (List.mem_append_right _ (List.mem_of_getElem? (i := 46) rfl))))) rfl
theorem wd_767 : Cond.instanceMethod ⟨"SuitByTailorsModel", "part", "(II)I"⟩ ∈ wG := wG_of (List.mem_append_right _ (List.mem_append_right _ (List.mem_append_right _ (List.mem_append_right _ (List.mem_of_getElem? (i := 47) rfl))))) rfl
theorem wd_768 : Cond.selects "SuitByTailorsModel" ⟨"SuitByTailorsModel", "part", "(II)I"⟩ ⟨"SuitByTailorsModel", "part", "(II)I"⟩ ∈ wG := wG_of (List.mem_append_right _ (List.mem_append_right _ (List.mem_append_right _ (List.mem_append_right _ (List.mem_of_getElem? (i := 48) rfl))))) rfl
theorem wd_769 : Cond.code ⟨"SuitByTailorsModel", "part", "(II)I"⟩ prog_11_method_23_code 3 (some .int) ∈ wG := wG_of (List.mem_append_right _ (List.mem_append_right _ (List.mem_append_right _ (List.mem_append_right _ (List.mem_of_getElem? (i := 49) rfl))))) rfl
theorem wd_770 : Cond.methodLink "SuitByTailorsModel" 151 ⟨"SuitByTailorsModel", "isPart", "(I)Z"⟩ ∈ wG := wG_of (List.mem_append_right _ (List.mem_append_right _ (List.mem_append_right _ (List.mem_append_right _ (List.mem_of_getElem? (i := 50) rfl))))) rfl
theorem wd_772 : Cond.instanceMethod ⟨"SuitByTailorsModel", "isPart", "(I)Z"⟩ ∈ wG := wG_of (List.mem_append_right _ (List.mem_append_right _ (List.mem_append_right _ (List.mem_append_right _ (List.mem_of_getElem? (i := 52) rfl))))) rfl
theorem wd_773 : Cond.code ⟨"SuitByTailorsModel", "isPart", "(I)Z"⟩ prog_11_method_13_code 2 (some .boolean) ∈ wG := wG_of (List.mem_append_right _ (List.mem_append_right _ (List.mem_append_right _ (List.mem_append_right _ (List.mem_of_getElem? (i := 53) rfl))))) rfl
theorem wd_774 : Cond.constantLong "SuitByTailorsModel" 154 (6 : Int64) ∈ wG := wG_of (List.mem_append_right _ (List.mem_append_right _ (List.mem_append_right _ (List.mem_append_right _ (List.mem_of_getElem? (i := 54) rfl))))) rfl
theorem wd_775 : Cond.methodLink "SuitByTailorsModel" 134 ⟨"SuitByTailorsModel", "placeOf", "(I)I"⟩ ∈ wG := wG_of (List.mem_append_right _ (List.mem_append_right _ (List.mem_append_right _ (List.mem_append_right _ (List.mem_of_getElem? (i := 55) rfl))))) rfl
theorem wd_777 : Cond.instanceMethod ⟨"SuitByTailorsModel", "placeOf", "(I)I"⟩ ∈ wG := wG_of (List.mem_append_right _ (List.mem_append_right _ (List.mem_append_right _ (List.mem_append_right _ (List.mem_of_getElem? (i := 57) rfl))))) rfl
theorem wd_778 : Cond.code ⟨"SuitByTailorsModel", "placeOf", "(I)I"⟩ prog_11_method_17_code 3 (some .int) ∈ wG := wG_of (List.mem_append_right _ (List.mem_append_right _ (List.mem_append_right _ (List.mem_append_right _ (List.mem_of_getElem? (i := 58) rfl))))) rfl
theorem wd_779 : Cond.methodLink "SuitByTailorsModel" 141 ⟨"SuitByTailorsModel", "slipNow", "(I)I"⟩ ∈ wG := wG_of (List.mem_append_right _ (List.mem_append_right _ (List.mem_append_right _ (List.mem_append_right _ (List.mem_of_getElem? (i := 59) rfl))))) rfl
theorem wd_781 : Cond.instanceMethod ⟨"SuitByTailorsModel", "slipNow", "(I)I"⟩ ∈ wG := wG_of (List.mem_append_right _ (List.mem_append_right _ (List.mem_append_right _ (List.mem_append_right _ (List.mem_of_getElem? (i := 61) rfl))))) rfl
theorem wd_782 : Cond.code ⟨"SuitByTailorsModel", "slipNow", "(I)I"⟩ prog_11_method_18_code 2 (some .int) ∈ wG := wG_of (List.mem_append_right _ (List.mem_append_right _ (List.mem_append_right _ (List.mem_append_right _ (List.mem_of_getElem? (i := 62) rfl))))) rfl
theorem wd_783 : Cond.methodLink "SuitByTailorsModel" 137 ⟨"SuitByTailorsModel", "slip", "(III)I"⟩ ∈ wG := wG_of (List.mem_append_right _ (List.mem_append_right _ (List.mem_append_right _ (List.mem_append_right _ (List.mem_of_getElem? (i := 63) rfl))))) rfl
theorem wd_784 : Cond.static ⟨"SuitByTailorsModel", "slip", "(III)I"⟩ ∈ wG := wG_of (List.mem_append_right _ (List.mem_append_right _ (List.mem_append_right _ (List.mem_append_right _ (List.mem_of_getElem? (i := 64) rfl))))) rfl
theorem wd_785 : Cond.code ⟨"SuitByTailorsModel", "slip", "(III)I"⟩ prog_11_method_15_code 6 (some .int) ∈ wG := wG_of (List.mem_append_right _ (List.mem_append_right _ (List.mem_append_right _ (List.mem_append_right _ (List.mem_of_getElem? (i := 65) rfl))))) rfl
theorem wd_786 : Cond.constantLong "SuitByTailorsModel" 126 (7919 : Int64) ∈ wG := wG_of (List.mem_append_right _ (List.mem_append_right _ (List.mem_append_right _ (List.mem_append_right _ (List.mem_of_getElem? (i := 66) rfl))))) rfl
theorem wd_787 : Cond.constantLong "SuitByTailorsModel" 128 (6151 : Int64) ∈ wG := wG_of (List.mem_append_right _ (List.mem_append_right _ (List.mem_append_right _ (List.mem_append_right _ (List.mem_of_getElem? (i := 67) rfl))))) rfl
theorem wd_788 : Cond.constantLong "SuitByTailorsModel" 130 (3571 : Int64) ∈ wG := wG_of (List.mem_append_right _ (List.mem_append_right _ (List.mem_append_right _ (List.mem_append_right _ (List.mem_of_getElem? (i := 68) rfl))))) rfl
theorem wd_789 : Cond.constantLong "SuitByTailorsModel" 132 (65521 : Int64) ∈ wG := wG_of (List.mem_append_right _ (List.mem_append_right _ (List.mem_append_right _ (List.mem_append_right _ (List.mem_of_getElem? (i := 69) rfl))))) rfl
theorem wd_790 : Cond.methodLink "SuitByTailorsModel" 144 ⟨"SuitByTailorsModel", "cutOf", "(II)I"⟩ ∈ wG := wG_of (List.mem_append_right _ (List.mem_append_right _ (List.mem_append_right _ (List.mem_append_right _ (List.mem_of_getElem? (i := 70) rfl))))) rfl
theorem wd_792 : Cond.instanceMethod ⟨"SuitByTailorsModel", "cutOf", "(II)I"⟩ ∈ wG := wG_of (List.mem_append_right _ (List.mem_append_right _ (List.mem_append_right _ (List.mem_append_right _ (List.mem_of_getElem? (i := 72) rfl))))) rfl
theorem wd_793 : Cond.code ⟨"SuitByTailorsModel", "cutOf", "(II)I"⟩ prog_11_method_16_code 3 (some .int) ∈ wG := wG_of (List.mem_append_right _ (List.mem_append_right _ (List.mem_append_right _ (List.mem_append_right _ (List.mem_of_getElem? (i := 73) rfl))))) rfl
theorem wd_794 : Cond.methodLink "SuitByTailorsLaw" 42 ⟨"SuitByTailorsModel", "gap", "(I)I"⟩ ∈ wG := wG_of (List.mem_append_right _ (List.mem_append_right _ (List.mem_append_right _ (List.mem_append_right _ (List.mem_of_getElem? (i := 74) rfl))))) rfl
theorem wd_795 : Cond.instanceMethod ⟨"SuitByTailorsModel", "gap", "(I)I"⟩ ∈ wG := wG_of (List.mem_append_right _ (List.mem_append_right _ (List.mem_append_right _ (List.mem_append_right _ (List.mem_of_getElem? (i := 75) rfl))))) rfl
theorem wd_796 : Cond.selects "SuitByTailorsModel" ⟨"SuitByTailorsModel", "gap", "(I)I"⟩ ⟨"SuitByTailorsModel", "gap", "(I)I"⟩ ∈ wG := wG_of (List.mem_append_right _ (List.mem_append_right _ (List.mem_append_right _ (List.mem_append_right _ (List.mem_of_getElem? (i := 76) rfl))))) rfl
theorem wd_797 : Cond.code ⟨"SuitByTailorsModel", "gap", "(I)I"⟩ prog_11_method_24_code 2 (some .int) ∈ wG := wG_of (List.mem_append_right _ (List.mem_append_right _ (List.mem_append_right _ (List.mem_append_right _ (List.mem_of_getElem? (i := 77) rfl))))) rfl
theorem wd_798 : Cond.constantLong "SuitByTailorsModel" 156 (-1 : Int64) ∈ wG := wG_of (List.mem_append_right _ (List.mem_append_right _ (List.mem_append_right _ (List.mem_append_right _ (List.mem_of_getElem? (i := 78) rfl))))) rfl
theorem wd_799 : Cond.methodLink "SuitByTailorsModel" 158 ⟨"SuitByTailorsModel", "lengths", "()V"⟩ ∈ wG := wG_of (List.mem_append_right _ (List.mem_append_right _ (List.mem_append_right _ (List.mem_append_right _ (List.mem_of_getElem? (i := 79) rfl))))) rfl
theorem wd_801 : Cond.instanceMethod ⟨"SuitByTailorsModel", "lengths", "()V"⟩ ∈ wG := wG_of (List.mem_append_right _ (List.mem_append_right _ (List.mem_append_right _ (List.mem_append_right _ (List.mem_of_getElem? (i := 81) rfl))))) rfl
theorem wd_802 : Cond.code ⟨"SuitByTailorsModel", "lengths", "()V"⟩ prog_11_method_19_code 2 none ∈ wG := wG_of (List.mem_append_right _ (List.mem_append_right _ (List.mem_append_right _ (List.mem_append_right _ (List.mem_of_getElem? (i := 82) rfl))))) rfl
theorem wd_803 : Cond.methodLink "SuitByTailorsModel" 161 ⟨"SuitByTailorsModel", "gaps", "()I"⟩ ∈ wG := wG_of (List.mem_append_right _ (List.mem_append_right _ (List.mem_append_right _ (List.mem_append_right _ (List.mem_of_getElem? (i := 83) rfl))))) rfl
theorem wd_805 : Cond.instanceMethod ⟨"SuitByTailorsModel", "gaps", "()I"⟩ ∈ wG := wG_of (List.mem_append_right _ (List.mem_append_right _ (List.mem_append_right _ (List.mem_append_right _ (List.mem_of_getElem? (i := 85) rfl))))) rfl
theorem wd_806 : Cond.code ⟨"SuitByTailorsModel", "gaps", "()I"⟩ prog_11_method_21_code 3 (some .int) ∈ wG := wG_of (List.mem_append_right _ (List.mem_append_right _ (List.mem_append_right _ (List.mem_append_right _ (List.mem_of_getElem? (i := 86) rfl))))) rfl
theorem wd_807 : Cond.methodLink "SuitByTailorsModel" 148 ⟨"SuitByTailorsModel", "gapOf", "(I)I"⟩ ∈ wG := wG_of (List.mem_append_right _ (List.mem_append_right _ (List.mem_append_right _ (List.mem_append_right _ (List.mem_of_getElem? (i := 87) rfl))))) rfl
theorem wd_809 : Cond.instanceMethod ⟨"SuitByTailorsModel", "gapOf", "(I)I"⟩ ∈ wG := wG_of (List.mem_append_right _ (List.mem_append_right _ (List.mem_append_right _ (List.mem_append_right _ (List.mem_of_getElem? (i := 89) rfl))))) rfl
theorem wd_810 : Cond.code ⟨"SuitByTailorsModel", "gapOf", "(I)I"⟩ prog_11_method_20_code 3 (some .int) ∈ wG := wG_of (List.mem_append_right _ (List.mem_append_right _ (List.mem_append_right _ (List.mem_append_right _ (List.mem_of_getElem? (i := 90) rfl))))) rfl
theorem wd_811 : Cond.methodLink "SuitByTailorsLaw" 46 ⟨"SuitByTailorsModel", "closes", "()I"⟩ ∈ wG := wG_of (List.mem_append_right _ (List.mem_append_right _ (List.mem_append_right _ (List.mem_append_right _ (List.mem_of_getElem? (i := 91) rfl))))) rfl
theorem wd_812 : Cond.instanceMethod ⟨"SuitByTailorsModel", "closes", "()I"⟩ ∈ wG := wG_of (List.mem_append_right _ (List.mem_append_right _ (List.mem_append_right _ (List.mem_append_right _ (List.mem_of_getElem? (i := 92) rfl))))) rfl
theorem wd_813 : Cond.selects "SuitByTailorsModel" ⟨"SuitByTailorsModel", "closes", "()I"⟩ ⟨"SuitByTailorsModel", "closes", "()I"⟩ ∈ wG := wG_of (List.mem_append_right _ (List.mem_append_right _ (List.mem_append_right _ (List.mem_append_right _ (List.mem_of_getElem? (i := 93) rfl))))) rfl
theorem wd_814 : Cond.code ⟨"SuitByTailorsModel", "closes", "()I"⟩ prog_11_method_25_code 1 (some .int) ∈ wG := wG_of (List.mem_append_right _ (List.mem_append_right _ (List.mem_append_right _ (List.mem_append_right _ (List.mem_of_getElem? (i := 94) rfl))))) rfl
theorem wd_815 : Cond.methodLink "SuitByTailorsModel" 164 ⟨"SuitByTailorsModel", "isClosed", "()Z"⟩ ∈ wG := wG_of (List.mem_append_right _ (List.mem_append_right _ (List.mem_append_right _ (List.mem_append_right _ (List.mem_of_getElem? (i := 95) rfl))))) rfl
theorem wd_817 : Cond.instanceMethod ⟨"SuitByTailorsModel", "isClosed", "()Z"⟩ ∈ wG := wG_of (List.mem_append_right _ (List.mem_append_right _ (List.mem_append_right _ (List.mem_append_right _ (List.mem_of_getElem? (i := 97) rfl))))) rfl
theorem wd_818 : Cond.code ⟨"SuitByTailorsModel", "isClosed", "()Z"⟩ prog_11_method_22_code 3 (some .boolean) ∈ wG := wG_of (List.mem_append_right _ (List.mem_append_right _ (List.mem_append_right _ (List.mem_append_right _ (List.mem_of_getElem? (i := 98) rfl))))) rfl
theorem wd_819 : Cond.methodLink "SuitByTailorsLaw" 50 ⟨"SuitByTailorsModel", "change", "(II)I"⟩ ∈ wG := wG_of (List.mem_append_right _ (List.mem_append_right _ (List.mem_append_right _ (List.mem_append_right _ (List.mem_of_getElem? (i := 99) rfl))))) rfl
theorem wd_820 : Cond.instanceMethod ⟨"SuitByTailorsModel", "change", "(II)I"⟩ ∈ wG := wG_of (List.mem_append_right _ (List.mem_append_right _ (List.mem_append_right _ (List.mem_append_right _ (List.mem_of_getElem? (i := 100) rfl))))) rfl
theorem wd_821 : Cond.selects "SuitByTailorsModel" ⟨"SuitByTailorsModel", "change", "(II)I"⟩ ⟨"SuitByTailorsModel", "change", "(II)I"⟩ ∈ wG := wG_of (List.mem_append_right _ (List.mem_append_right _ (List.mem_append_right _ (List.mem_append_right _ (List.mem_of_getElem? (i := 101) rfl))))) rfl
theorem wd_822 : Cond.code ⟨"SuitByTailorsModel", "change", "(II)I"⟩ prog_11_method_28_code 5 (some .int) ∈ wG := wG_of (List.mem_append_right _ (List.mem_append_right _ (List.mem_append_right _ (List.mem_append_right _ (List.mem_of_getElem? (i := 102) rfl))))) rfl
theorem wd_823 : Cond.methodLink "SuitByTailorsModel" 171 ⟨"SuitByTailorsModel", "known", "()V"⟩ ∈ wG := wG_of (List.mem_append_right _ (List.mem_append_right _ (List.mem_append_right _ (List.mem_append_right _ (List.mem_of_getElem? (i := 103) rfl))))) rfl
theorem wd_825 : Cond.instanceMethod ⟨"SuitByTailorsModel", "known", "()V"⟩ ∈ wG := wG_of (List.mem_append_right _ (List.mem_append_right _ (List.mem_append_right _ (List.mem_append_right _ (List.mem_of_getElem? (i := 105) rfl))))) rfl
theorem wd_826 : Cond.code ⟨"SuitByTailorsModel", "known", "()V"⟩ prog_11_method_27_code 2 none ∈ wG := wG_of (List.mem_append_right _ (List.mem_append_right _ (List.mem_append_right _ (List.mem_append_right _ (List.mem_of_getElem? (i := 106) rfl))))) rfl
theorem wd_827 : Cond.methodLink "SuitByTailorsModel" 167 ⟨"SuitByTailorsModel", "copies", "(II)V"⟩ ∈ wG := wG_of (List.mem_append_right _ (List.mem_append_right _ (List.mem_append_right _ (List.mem_append_right _ (List.mem_of_getElem? (i := 107) rfl))))) rfl
theorem wd_829 : Cond.instanceMethod ⟨"SuitByTailorsModel", "copies", "(II)V"⟩ ∈ wG := wG_of (List.mem_append_right _ (List.mem_append_right _ (List.mem_append_right _ (List.mem_append_right _ (List.mem_of_getElem? (i := 109) rfl))))) rfl
theorem wd_830 : Cond.code ⟨"SuitByTailorsModel", "copies", "(II)V"⟩ prog_11_method_26_code 4 none ∈ wG := wG_of (List.mem_append_right _ (List.mem_append_right _ (List.mem_append_right _ (List.mem_append_right _ (List.mem_of_getElem? (i := 110) rfl))))) rfl
theorem wd_831 : Cond.methodLink "SuitByTailorsLaw" 54 ⟨"SuitByTailorsModel", "alter", "(II)I"⟩ ∈ wG := wG_of (List.mem_append_right _ (List.mem_append_right _ (List.mem_append_right _ (List.mem_append_right _ (List.mem_of_getElem? (i := 111) rfl))))) rfl
theorem wd_832 : Cond.instanceMethod ⟨"SuitByTailorsModel", "alter", "(II)I"⟩ ∈ wG := wG_of (List.mem_append_right _ (List.mem_append_right _ (List.mem_append_right _ (List.mem_append_right _ (List.mem_of_getElem? (i := 112) rfl))))) rfl
theorem wd_833 : Cond.selects "SuitByTailorsModel" ⟨"SuitByTailorsModel", "alter", "(II)I"⟩ ⟨"SuitByTailorsModel", "alter", "(II)I"⟩ ∈ wG := wG_of (List.mem_append_right _ (List.mem_append_right _ (List.mem_append_right _ (List.mem_append_right _ (List.mem_of_getElem? (i := 113) rfl))))) rfl
theorem wd_834 : Cond.code ⟨"SuitByTailorsModel", "alter", "(II)I"⟩ prog_11_method_29_code 4 (some .int) ∈ wG := wG_of (List.mem_append_right _ (List.mem_append_right _ (List.mem_append_right _ (List.mem_append_right _ (List.mem_of_getElem? (i := 114) rfl))))) rfl
theorem wd_835 : Cond.constantLong "SuitByTailorsModel" 174 (-9 : Int64) ∈ wG := wG_of (List.mem_append_right _ (List.mem_append_right _ (List.mem_append_right _ (List.mem_append_right _ (List.mem_of_getElem? (i := 115) rfl))))) rfl
theorem wd_836 : Cond.constantLong "SuitByTailorsModel" 176 (9 : Int64) ∈ wG := wG_of (List.mem_append_right _ (List.mem_append_right _ (List.mem_append_right _ (List.mem_append_right _ (List.mem_of_getElem? (i := 116) rfl))))) rfl
theorem wd_837 : Cond.methodLink "SuitByTailorsModel" 178 ⟨"SuitByTailorsModel", "part", "(II)I"⟩ ∈ wG := wG_of (List.mem_append_right _ (List.mem_append_right _ (List.mem_append_right _ (List.mem_append_right _ (List.mem_of_getElem? (i := 117) rfl))))) rfl
theorem wd_838 : Cond.constantLong "SuitByTailorsModel" 180 (299 : Int64) ∈ wG := wG_of (List.mem_append_right _ (List.mem_append_right _ (List.mem_append_right _ (List.mem_append_right _ (List.mem_of_getElem? (i := 118) rfl))))) rfl
theorem wd_839 : Cond.methodLink "SuitByTailorsLaw" 58 ⟨"SuitByTailorsModel", "undo", "()I"⟩ ∈ wG := wG_of (List.mem_append_right _ (List.mem_append_right _ (List.mem_append_right _ (List.mem_append_right _ (List.mem_of_getElem? (i := 119) rfl))))) rfl
theorem wd_840 : Cond.instanceMethod ⟨"SuitByTailorsModel", "undo", "()I"⟩ ∈ wG := wG_of (List.mem_append_right _ (List.mem_append_right _ (List.mem_append_right _ (List.mem_append_right _ (List.mem_of_getElem? (i := 120) rfl))))) rfl
theorem wd_841 : Cond.selects "SuitByTailorsModel" ⟨"SuitByTailorsModel", "undo", "()I"⟩ ⟨"SuitByTailorsModel", "undo", "()I"⟩ ∈ wG := wG_of (List.mem_append_right _ (List.mem_append_right _ (List.mem_append_right _ (List.mem_append_right _ (List.mem_of_getElem? (i := 121) rfl))))) rfl
theorem wd_842 : Cond.code ⟨"SuitByTailorsModel", "undo", "()I"⟩ prog_11_method_30_code 1 (some .int) ∈ wG := wG_of (List.mem_append_right _ (List.mem_append_right _ (List.mem_append_right _ (List.mem_append_right _ (List.mem_of_getElem? (i := 122) rfl))))) rfl
theorem wd_843 : Cond.methodLink "SuitByTailorsLaw" 62 ⟨"SuitByTailorsModel", "order", "(I)I"⟩ ∈ wG := wG_of (List.mem_append_right _ (List.mem_append_right _ (List.mem_append_right _ (List.mem_append_right _ (List.mem_of_getElem? (i := 123) rfl))))) rfl
theorem wd_844 : Cond.instanceMethod ⟨"SuitByTailorsModel", "order", "(I)I"⟩ ∈ wG := wG_of (List.mem_append_right _ (List.mem_append_right _ (List.mem_append_right _ (List.mem_append_right _ (List.mem_of_getElem? (i := 124) rfl))))) rfl
theorem wd_845 : Cond.selects "SuitByTailorsModel" ⟨"SuitByTailorsModel", "order", "(I)I"⟩ ⟨"SuitByTailorsModel", "order", "(I)I"⟩ ∈ wG := wG_of (List.mem_append_right _ (List.mem_append_right _ (List.mem_append_right _ (List.mem_append_right _ (List.mem_of_getElem? (i := 125) rfl))))) rfl
theorem wd_846 : Cond.code ⟨"SuitByTailorsModel", "order", "(I)I"⟩ prog_11_method_32_code 6 (some .int) ∈ wG := wG_of (List.mem_append_right _ (List.mem_append_right _ (List.mem_append_right _ (List.mem_append_right _ (List.mem_of_getElem? (i := 126) rfl))))) rfl
theorem wd_847 : Cond.methodLink "SuitByTailorsModel" 182 ⟨"SuitByTailorsModel", "nextOrder", "()Z"⟩ ∈ wG := wG_of (List.mem_append_right _ (List.mem_append_right _ (List.mem_append_right _ (List.mem_append_right _ (List.mem_of_getElem? (i := 127) rfl))))) rfl
theorem wd_849 : Cond.instanceMethod ⟨"SuitByTailorsModel", "nextOrder", "()Z"⟩ ∈ wG := wG_of (List.mem_append_right _ (List.mem_append_right _ (List.mem_append_right _ (List.mem_append_right _ (List.mem_of_getElem? (i := 129) rfl))))) rfl
theorem wd_850 : Cond.code ⟨"SuitByTailorsModel", "nextOrder", "()Z"⟩ prog_11_method_31_code 7 (some .boolean) ∈ wG := wG_of (List.mem_append_right _ (List.mem_append_right _ (List.mem_append_right _ (List.mem_append_right _ (List.mem_of_getElem? (i := 130) rfl))))) rfl
theorem wd_851 : Cond.methodLink "SuitByTailorsLaw" 66 ⟨"SuitByTailorsModel", "bribes", "(I)I"⟩ ∈ wG := wG_of (List.mem_append_right _ (List.mem_append_right _ (List.mem_append_right _ (List.mem_append_right _ (List.mem_of_getElem? (i := 131) rfl))))) rfl
theorem wd_852 : Cond.instanceMethod ⟨"SuitByTailorsModel", "bribes", "(I)I"⟩ ∈ wG := wG_of (List.mem_append_right _ (List.mem_append_right _ (List.mem_append_right _ (List.mem_append_right _ (List.mem_of_getElem? (i := 132) rfl))))) rfl
theorem wd_853 : Cond.selects "SuitByTailorsModel" ⟨"SuitByTailorsModel", "bribes", "(I)I"⟩ ⟨"SuitByTailorsModel", "bribes", "(I)I"⟩ ∈ wG := wG_of (List.mem_append_right _ (List.mem_append_right _ (List.mem_append_right _ (List.mem_append_right _ (List.mem_of_getElem? (i := 133) rfl))))) rfl
theorem wd_854 : Cond.code ⟨"SuitByTailorsModel", "bribes", "(I)I"⟩ prog_11_method_33_code 8 (some .int) ∈ wG := wG_of (List.mem_append_right _ (List.mem_append_right _ (List.mem_append_right _ (List.mem_append_right _ (List.mem_of_getElem? (i := 134) rfl))))) rfl
theorem wd_855 : Cond.methodLink "SuitByTailorsLaw" 70 ⟨"SuitByTailorsModel", "closed", "(I)I"⟩ ∈ wG := wG_of (List.mem_append_right _ (List.mem_append_right _ (List.mem_append_right _ (List.mem_append_right _ (List.mem_of_getElem? (i := 135) rfl))))) rfl
theorem wd_856 : Cond.instanceMethod ⟨"SuitByTailorsModel", "closed", "(I)I"⟩ ∈ wG := wG_of (List.mem_append_right _ (List.mem_append_right _ (List.mem_append_right _ (List.mem_append_right _ (List.mem_of_getElem? (i := 136) rfl))))) rfl
theorem wd_857 : Cond.selects "SuitByTailorsModel" ⟨"SuitByTailorsModel", "closed", "(I)I"⟩ ⟨"SuitByTailorsModel", "closed", "(I)I"⟩ ∈ wG := wG_of (List.mem_append_right _ (List.mem_append_right _ (List.mem_append_right _ (List.mem_append_right _ (List.mem_of_getElem? (i := 137) rfl))))) rfl
theorem wd_858 : Cond.code ⟨"SuitByTailorsModel", "closed", "(I)I"⟩ prog_11_method_34_code 7 (some .int) ∈ wG := wG_of (List.mem_append_right _ (List.mem_append_right _ (List.mem_append_right _ (List.mem_append_right _ (List.mem_of_getElem? (i := 138) rfl))))) rfl
theorem wd_859 : Cond.methodLink "SuitByTailorsLaw" 75 ⟨"SuitByTailorsModel", "seen", "(III)I"⟩ ∈ wG := wG_of (List.mem_append_right _ (List.mem_append_right _ (List.mem_append_right _ (List.mem_append_right _ (List.mem_of_getElem? (i := 139) rfl))))) rfl
theorem wd_860 : Cond.instanceMethod ⟨"SuitByTailorsModel", "seen", "(III)I"⟩ ∈ wG := wG_of (List.mem_append_right _ (List.mem_append_right _ (List.mem_append_right _ (List.mem_append_right _ (List.mem_of_getElem? (i := 140) rfl))))) rfl
theorem wd_861 : Cond.selects "SuitByTailorsModel" ⟨"SuitByTailorsModel", "seen", "(III)I"⟩ ⟨"SuitByTailorsModel", "seen", "(III)I"⟩ ∈ wG := wG_of (List.mem_append_right _ (List.mem_append_right _ (List.mem_append_right _ (List.mem_append_right _ (List.mem_of_getElem? (i := 141) rfl))))) rfl
theorem wd_862 : Cond.code ⟨"SuitByTailorsModel", "seen", "(III)I"⟩ prog_11_method_35_code 4 (some .int) ∈ wG := wG_of (List.mem_append_right _ (List.mem_append_right _ (List.mem_append_right _ (List.mem_append_right _ (List.mem_of_getElem? (i := 142) rfl))))) rfl
theorem wd_863 : Cond.methodLink "SuitByTailorsModel" 185 ⟨"SuitByTailorsModel", "isTailor", "(I)Z"⟩ ∈ wG := wG_of (List.mem_append_right _ (List.mem_append_right _ (List.mem_append_right _ (List.mem_append_right _ (List.mem_of_getElem? (i := 143) rfl))))) rfl
theorem wd_865 : Cond.instanceMethod ⟨"SuitByTailorsModel", "isTailor", "(I)Z"⟩ ∈ wG := wG_of (List.mem_append_right _ (List.mem_append_right _ (List.mem_append_right _ (List.mem_append_right _ (List.mem_of_getElem? (i := 145) rfl))))) rfl
theorem wd_866 : Cond.code ⟨"SuitByTailorsModel", "isTailor", "(I)Z"⟩ prog_11_method_14_code 2 (some .boolean) ∈ wG := wG_of (List.mem_append_right _ (List.mem_append_right _ (List.mem_append_right _ (List.mem_append_right _ (List.mem_of_getElem? (i := 146) rfl))))) rfl
theorem wd_867 : Cond.methodLink "SuitByTailorsLaw" 79 ⟨"SuitByTailorsModel", "forget", "()I"⟩ ∈ wG := wG_of (List.mem_append_right _ (List.mem_append_right _ (List.mem_append_right _ (List.mem_append_right _ (List.mem_of_getElem? (i := 147) rfl))))) rfl
theorem wd_868 : Cond.instanceMethod ⟨"SuitByTailorsModel", "forget", "()I"⟩ ∈ wG := wG_of (List.mem_append_right _ (List.mem_append_right _ (List.mem_append_right _ (List.mem_append_right _ (List.mem_of_getElem? (i := 148) rfl))))) rfl
theorem wd_869 : Cond.selects "SuitByTailorsModel" ⟨"SuitByTailorsModel", "forget", "()I"⟩ ⟨"SuitByTailorsModel", "forget", "()I"⟩ ∈ wG := wG_of (List.mem_append_right _ (List.mem_append_right _ (List.mem_append_right _ (List.mem_append_right _ (List.mem_of_getElem? (i := 149) rfl))))) rfl
theorem wd_870 : Cond.code ⟨"SuitByTailorsModel", "forget", "()I"⟩ prog_11_method_36_code 2 (some .int) ∈ wG := wG_of (List.mem_append_right _ (List.mem_append_right _ (List.mem_append_right _ (List.mem_append_right _ (List.mem_of_getElem? (i := 150) rfl))))) rfl
theorem wd_871 : Cond.methodLink "SuitByTailorsLaw" 83 ⟨"SuitByTailorsModel", "inch", "(II)I"⟩ ∈ wG := wG_of (List.mem_append_right _ (List.mem_append_right _ (List.mem_append_right _ (List.mem_append_right _ (List.mem_of_getElem? (i := 151) rfl))))) rfl
theorem wd_872 : Cond.instanceMethod ⟨"SuitByTailorsModel", "inch", "(II)I"⟩ ∈ wG := wG_of (List.mem_append_right _ (List.mem_append_right _ (List.mem_append_right _ (List.mem_append_right _ (List.mem_of_getElem? (i := 152) rfl))))) rfl
theorem wd_873 : Cond.selects "SuitByTailorsModel" ⟨"SuitByTailorsModel", "inch", "(II)I"⟩ ⟨"SuitByTailorsModel", "inch", "(II)I"⟩ ∈ wG := wG_of (List.mem_append_right _ (List.mem_append_right _ (List.mem_append_right _ (List.mem_append_right _ (List.mem_of_getElem? (i := 153) rfl))))) rfl
theorem wd_874 : Cond.code ⟨"SuitByTailorsModel", "inch", "(II)I"⟩ prog_11_method_37_code 8 (some .int) ∈ wG := wG_of (List.mem_append_right _ (List.mem_append_right _ (List.mem_append_right _ (List.mem_append_right _ (List.mem_of_getElem? (i := 154) rfl))))) rfl
theorem wd_875 : Cond.methodLink "SuitByTailorsLaw" 87 ⟨"SuitByTailorsModel", "added", "(II)I"⟩ ∈ wG := wG_of (List.mem_append_right _ (List.mem_append_right _ (List.mem_append_right _ (List.mem_append_right _ (List.mem_of_getElem? (i := 155) rfl))))) rfl
theorem wd_876 : Cond.instanceMethod ⟨"SuitByTailorsModel", "added", "(II)I"⟩ ∈ wG := wG_of (List.mem_append_right _ (List.mem_append_right _ (List.mem_append_right _ (List.mem_append_right _ (List.mem_of_getElem? (i := 156) rfl))))) rfl
theorem wd_877 : Cond.selects "SuitByTailorsModel" ⟨"SuitByTailorsModel", "added", "(II)I"⟩ ⟨"SuitByTailorsModel", "added", "(II)I"⟩ ∈ wG := wG_of (List.mem_append_right _ (List.mem_append_right _ (List.mem_append_right _ (List.mem_append_right _ (List.mem_of_getElem? (i := 157) rfl))))) rfl
theorem wd_878 : Cond.code ⟨"SuitByTailorsModel", "added", "(II)I"⟩ prog_11_method_38_code 4 (some .int) ∈ wG := wG_of (List.mem_append_right _ (List.mem_append_right _ (List.mem_append_right _ (List.mem_append_right _ (List.mem_of_getElem? (i := 158) rfl))))) rfl
theorem wd_879 : Cond.methodLink "SuitByTailorsLaw" 91 ⟨"SuitByTailorsModel", "bolts", "(I)I"⟩ ∈ wG := wG_of (List.mem_append_right _ (List.mem_append_right _ (List.mem_append_right _ (List.mem_append_right _ (List.mem_of_getElem? (i := 159) rfl))))) rfl
theorem wd_880 : Cond.instanceMethod ⟨"SuitByTailorsModel", "bolts", "(I)I"⟩ ∈ wG := wG_of (List.mem_append_right _ (List.mem_append_right _ (List.mem_append_right _ (List.mem_append_right _ (List.mem_of_getElem? (i := 160) rfl))))) rfl
theorem wd_881 : Cond.selects "SuitByTailorsModel" ⟨"SuitByTailorsModel", "bolts", "(I)I"⟩ ⟨"SuitByTailorsModel", "bolts", "(I)I"⟩ ∈ wG := wG_of (List.mem_append_right _ (List.mem_append_right _ (List.mem_append_right _ (List.mem_append_right _ (List.mem_of_getElem? (i := 161) rfl))))) rfl
theorem wd_882 : Cond.code ⟨"SuitByTailorsModel", "bolts", "(I)I"⟩ prog_11_method_41_code 6 (some .int) ∈ wG := wG_of (List.mem_append_right _ (List.mem_append_right _ (List.mem_append_right _ (List.mem_append_right _ (List.mem_of_getElem? (i := 162) rfl))))) rfl
theorem wd_883 : Cond.methodLink "SuitByTailorsModel" 188 ⟨"SuitByTailorsModel", "many", "()I"⟩ ∈ wG := wG_of (List.mem_append_right _ (List.mem_append_right _ (List.mem_append_right _ (List.mem_append_right _ (List.mem_of_getElem? (i := 163) rfl))))) rfl
theorem wd_885 : Cond.instanceMethod ⟨"SuitByTailorsModel", "many", "()I"⟩ ∈ wG := wG_of (List.mem_append_right _ (List.mem_append_right _ (List.mem_append_right _ (List.mem_append_right _ (List.mem_of_getElem? (i := 165) rfl))))) rfl
theorem wd_886 : Cond.code ⟨"SuitByTailorsModel", "many", "()I"⟩ prog_11_method_40_code 3 (some .int) ∈ wG := wG_of (List.mem_append_right _ (List.mem_append_right _ (List.mem_append_right _ (List.mem_append_right _ (List.mem_of_getElem? (i := 166) rfl))))) rfl
theorem wd_887 : Cond.methodLink "SuitByTailorsModel" 191 ⟨"SuitByTailorsModel", "nextBolts", "()Z"⟩ ∈ wG := wG_of (List.mem_append_right _ (List.mem_append_right _ (List.mem_append_right _ (List.mem_append_right _ (List.mem_of_getElem? (i := 167) rfl))))) rfl
theorem wd_889 : Cond.instanceMethod ⟨"SuitByTailorsModel", "nextBolts", "()Z"⟩ ∈ wG := wG_of (List.mem_append_right _ (List.mem_append_right _ (List.mem_append_right _ (List.mem_append_right _ (List.mem_of_getElem? (i := 169) rfl))))) rfl
theorem wd_890 : Cond.code ⟨"SuitByTailorsModel", "nextBolts", "()Z"⟩ prog_11_method_39_code 4 (some .boolean) ∈ wG := wG_of (List.mem_append_right _ (List.mem_append_right _ (List.mem_append_right _ (List.mem_append_right _ (List.mem_of_getElem? (i := 170) rfl))))) rfl
theorem wd_891 : Cond.methodLink "SuitByTailorsLaw" 95 ⟨"SuitByTailorsModel", "coat", "(I)I"⟩ ∈ wG := wG_of (List.mem_append_right _ (List.mem_append_right _ (List.mem_append_right _ (List.mem_append_right _ (List.mem_of_getElem? (i := 171) rfl))))) rfl
theorem wd_892 : Cond.instanceMethod ⟨"SuitByTailorsModel", "coat", "(I)I"⟩ ∈ wG := wG_of (List.mem_append_right _ (List.mem_append_right _ (List.mem_append_right _ (List.mem_append_right _ (List.mem_of_getElem? (i := 172) rfl))))) rfl
theorem wd_893 : Cond.selects "SuitByTailorsModel" ⟨"SuitByTailorsModel", "coat", "(I)I"⟩ ⟨"SuitByTailorsModel", "coat", "(I)I"⟩ ∈ wG := wG_of (List.mem_append_right _ (List.mem_append_right _ (List.mem_append_right _ (List.mem_append_right _ (List.mem_of_getElem? (i := 173) rfl))))) rfl
theorem wd_894 : Cond.code ⟨"SuitByTailorsModel", "coat", "(I)I"⟩ prog_11_method_42_code 7 (some .int) ∈ wG := wG_of (List.mem_append_right _ (List.mem_append_right _ (List.mem_append_right _ (List.mem_append_right _ (List.mem_of_getElem? (i := 174) rfl))))) rfl
theorem wd_895 : Cond.methodLink "SuitByTailorsLaw" 99 ⟨"SuitByTailorsModel", "pin", "(I)I"⟩ ∈ wG := wG_of (List.mem_append_right _ (List.mem_append_right _ (List.mem_append_right _ (List.mem_append_right _ (List.mem_of_getElem? (i := 175) rfl))))) rfl
theorem wd_896 : Cond.instanceMethod ⟨"SuitByTailorsModel", "pin", "(I)I"⟩ ∈ wG := wG_of (List.mem_append_right _ (List.mem_append_right _ (List.mem_append_right _ (List.mem_append_right _ (List.mem_of_getElem? (i := 176) rfl))))) rfl
theorem wd_897 : Cond.selects "SuitByTailorsModel" ⟨"SuitByTailorsModel", "pin", "(I)I"⟩ ⟨"SuitByTailorsModel", "pin", "(I)I"⟩ ∈ wG := wG_of (List.mem_append_right _ (List.mem_append_right _ (List.mem_append_right _ (List.mem_append_right _ (List.mem_of_getElem? (i := 177) rfl))))) rfl
theorem wd_898 : Cond.code ⟨"SuitByTailorsModel", "pin", "(I)I"⟩ prog_11_method_44_code 2 (some .int) ∈ wG := wG_of (List.mem_append_right _ (List.mem_append_right _ (List.mem_append_right _ (List.mem_append_right _ (List.mem_of_getElem? (i := 178) rfl))))) rfl
theorem wd_899 : Cond.methodLink "SuitByTailorsModel" 194 ⟨"SuitByTailorsModel", "tailorOf", "(II)I"⟩ ∈ wG := wG_of (List.mem_append_right _ (List.mem_append_right _ (List.mem_append_right _ (List.mem_append_right _ (List.mem_of_getElem? (i := 179) rfl))))) rfl
theorem wd_901 : Cond.instanceMethod ⟨"SuitByTailorsModel", "tailorOf", "(II)I"⟩ ∈ wG := wG_of (List.mem_append_right _ (List.mem_append_right _ (List.mem_append_right _ (List.mem_append_right _ (List.mem_of_getElem? (i := 181) rfl))))) rfl
theorem wd_902 : Cond.code ⟨"SuitByTailorsModel", "tailorOf", "(II)I"⟩ prog_11_method_43_code 3 (some .int) ∈ wG := wG_of (List.mem_append_right _ (List.mem_append_right _ (List.mem_append_right _ (List.mem_append_right _ (List.mem_of_getElem? (i := 182) rfl))))) rfl
theorem wd_903 : Cond.methodLink "SuitByTailorsLaw" 103 ⟨"SuitByTailorsModel", "noPins", "()I"⟩ ∈ wG := wG_of (List.mem_append_right _ (List.mem_append_right _ (List.mem_append_right _ (List.mem_append_right _ (List.mem_of_getElem? (i := 183) rfl))))) rfl
theorem wd_904 : Cond.instanceMethod ⟨"SuitByTailorsModel", "noPins", "()I"⟩ ∈ wG := wG_of (List.mem_append_right _ (List.mem_append_right _ (List.mem_append_right _ (List.mem_append_right _ (List.mem_of_getElem? (i := 184) rfl))))) rfl
theorem wd_905 : Cond.selects "SuitByTailorsModel" ⟨"SuitByTailorsModel", "noPins", "()I"⟩ ⟨"SuitByTailorsModel", "noPins", "()I"⟩ ∈ wG := wG_of (List.mem_append_right _ (List.mem_append_right _ (List.mem_append_right _ (List.mem_append_right _ (List.mem_of_getElem? (i := 185) rfl))))) rfl
theorem wd_906 : Cond.code ⟨"SuitByTailorsModel", "noPins", "()I"⟩ prog_11_method_45_code 2 (some .int) ∈ wG := wG_of (List.mem_append_right _ (List.mem_append_right _ (List.mem_append_right _ (List.mem_append_right _ (List.mem_of_getElem? (i := 186) rfl))))) rfl
theorem wd_907 : Cond.methodLink "SuitByTailorsLaw" 107 ⟨"SuitByTailorsModel", "thumb", "(I)I"⟩ ∈ wG := wG_of (List.mem_append_right _ (List.mem_append_right _ (List.mem_append_right _ (List.mem_append_right _ (List.mem_of_getElem? (i := 187) rfl))))) rfl
theorem wd_908 : Cond.instanceMethod ⟨"SuitByTailorsModel", "thumb", "(I)I"⟩ ∈ wG := wG_of (List.mem_append_right _ (List.mem_append_right _ (List.mem_append_right _ (List.mem_append_right _ (List.mem_of_getElem? (i := 188) rfl))))) rfl
theorem wd_909 : Cond.selects "SuitByTailorsModel" ⟨"SuitByTailorsModel", "thumb", "(I)I"⟩ ⟨"SuitByTailorsModel", "thumb", "(I)I"⟩ ∈ wG := wG_of (List.mem_append_right _ (List.mem_append_right _ (List.mem_append_right _ (List.mem_append_right _ (List.mem_of_getElem? (i := 189) rfl))))) rfl
theorem wd_910 : Cond.code ⟨"SuitByTailorsModel", "thumb", "(I)I"⟩ prog_11_method_46_code 4 (some .int) ∈ wG := wG_of (List.mem_append_right _ (List.mem_append_right _ (List.mem_append_right _ (List.mem_append_right _ (List.mem_of_getElem? (i := 190) rfl))))) rfl
theorem wd_911 : Cond.methodLink "SuitByTailorsLaw" 111 ⟨"SuitByTailorsModel", "year", "(III)I"⟩ ∈ wG := wG_of (List.mem_append_right _ (List.mem_append_right _ (List.mem_append_right _ (List.mem_append_right _ (List.mem_of_getElem? (i := 191) rfl))))) rfl
theorem wd_912 : Cond.instanceMethod ⟨"SuitByTailorsModel", "year", "(III)I"⟩ ∈ wG := wG_of (List.mem_append_right _ (List.mem_append_right _ (List.mem_append_right _ (List.mem_append_right _ (List.mem_of_getElem? (i := 192) rfl))))) rfl
theorem wd_913 : Cond.selects "SuitByTailorsModel" ⟨"SuitByTailorsModel", "year", "(III)I"⟩ ⟨"SuitByTailorsModel", "year", "(III)I"⟩ ∈ wG := wG_of (List.mem_append_right _ (List.mem_append_right _ (List.mem_append_right _ (List.mem_append_right _ (List.mem_of_getElem? (i := 193) rfl))))) rfl
theorem wd_914 : Cond.code ⟨"SuitByTailorsModel", "year", "(III)I"⟩ prog_11_method_47_code 8 (some .int) ∈ wG := wG_of (List.mem_append_right _ (List.mem_append_right _ (List.mem_append_right _ (List.mem_append_right _ (List.mem_of_getElem? (i := 194) rfl))))) rfl
theorem wd_915 : Cond.constantLong "SuitByTailorsModel" 197 (999 : Int64) ∈ wG := wG_of (List.mem_append_right _ (List.mem_append_right _ (List.mem_append_right _ (List.mem_append_right _ (List.mem_of_getElem? (i := 195) rfl))))) rfl
theorem wd_916 : Cond.constantLong "SuitByTailorsModel" 199 (100 : Int64) ∈ wG := wG_of (List.mem_append_right _ (List.mem_append_right _ (List.mem_append_right _ (List.mem_append_right _ (List.mem_of_getElem? (i := 196) rfl))))) rfl
theorem wd_917 : Cond.methodLink "SuitByTailorsLaw" 115 ⟨"SuitByTailorsModel", "keep", "()I"⟩ ∈ wG := wG_of (List.mem_append_right _ (List.mem_append_right _ (List.mem_append_right _ (List.mem_append_right _ (List.mem_of_getElem? (i := 197) rfl))))) rfl
theorem wd_918 : Cond.instanceMethod ⟨"SuitByTailorsModel", "keep", "()I"⟩ ∈ wG := wG_of (List.mem_append_right _ (List.mem_append_right _ (List.mem_append_right _ (List.mem_append_right _ (List.mem_of_getElem? (i := 198) rfl))))) rfl
theorem wd_919 : Cond.selects "SuitByTailorsModel" ⟨"SuitByTailorsModel", "keep", "()I"⟩ ⟨"SuitByTailorsModel", "keep", "()I"⟩ ∈ wG := wG_of (List.mem_append_right _ (List.mem_append_right _ (List.mem_append_right _ (List.mem_append_right _ (List.mem_of_getElem? (i := 199) rfl))))) rfl
theorem wd_920 : Cond.code ⟨"SuitByTailorsModel", "keep", "()I"⟩ prog_11_method_48_code 1 (some .int) ∈ wG := wG_of (List.mem_append_right _ (List.mem_append_right _ (List.mem_append_right _ (List.mem_append_right _ (List.mem_of_getElem? (i := 200) rfl))))) rfl
theorem wd_921 : Cond.methodLink "SuitByTailorsLaw" 119 ⟨"SuitByTailorsModel", "back", "()I"⟩ ∈ wG := wG_of (List.mem_append_right _ (List.mem_append_right _ (List.mem_append_right _ (List.mem_append_right _ (List.mem_of_getElem? (i := 201) rfl))))) rfl
theorem wd_922 : Cond.instanceMethod ⟨"SuitByTailorsModel", "back", "()I"⟩ ∈ wG := wG_of (List.mem_append_right _ (List.mem_append_right _ (List.mem_append_right _ (List.mem_append_right _ (List.mem_of_getElem? (i := 202) rfl))))) rfl
theorem wd_923 : Cond.selects "SuitByTailorsModel" ⟨"SuitByTailorsModel", "back", "()I"⟩ ⟨"SuitByTailorsModel", "back", "()I"⟩ ∈ wG := wG_of (List.mem_append_right _ (List.mem_append_right _ (List.mem_append_right _ (List.mem_append_right _ (List.mem_of_getElem? (i := 203) rfl))))) rfl
theorem wd_924 : Cond.code ⟨"SuitByTailorsModel", "back", "()I"⟩ prog_11_method_49_code 1 (some .int) ∈ wG := wG_of (List.mem_append_right _ (List.mem_append_right _ (List.mem_append_right _ (List.mem_append_right _ (List.mem_of_getElem? (i := 204) rfl))))) rfl
theorem wd_925 : Cond.methodLink "SuitByTailorsLaw" 123 ⟨"SuitByTailorsModel", "count", "(I)I"⟩ ∈ wG := wG_of (List.mem_append_right _ (List.mem_append_right _ (List.mem_append_right _ (List.mem_append_right _ (List.mem_of_getElem? (i := 205) rfl))))) rfl
theorem wd_926 : Cond.instanceMethod ⟨"SuitByTailorsModel", "count", "(I)I"⟩ ∈ wG := wG_of (List.mem_append_right _ (List.mem_append_right _ (List.mem_append_right _ (List.mem_append_right _ (List.mem_of_getElem? (i := 206) rfl))))) rfl
theorem wd_927 : Cond.selects "SuitByTailorsModel" ⟨"SuitByTailorsModel", "count", "(I)I"⟩ ⟨"SuitByTailorsModel", "count", "(I)I"⟩ ∈ wG := wG_of (List.mem_append_right _ (List.mem_append_right _ (List.mem_append_right _ (List.mem_append_right _ (List.mem_of_getElem? (i := 207) rfl))))) rfl
theorem wd_928 : Cond.code ⟨"SuitByTailorsModel", "count", "(I)I"⟩ prog_11_method_50_code 2 (some .int) ∈ wG := wG_of (List.mem_append_right _ (List.mem_append_right _ (List.mem_append_right _ (List.mem_append_right _ (List.mem_of_getElem? (i := 208) rfl))))) rfl
theorem wd_929 : Cond.constantLong "SuitByTailorsLaw" 13 (4294967295 : Int64) ∈ wG := wG_of (List.mem_append_right _ (List.mem_append_right _ (List.mem_append_right _ (List.mem_append_right _ (List.mem_of_getElem? (i := 209) rfl))))) rfl
theorem wd_930 : Cond.fieldLink "java/lang/String" 9 "java/lang/String" "value" "[B" ∈ wG := wG_of (List.mem_append_right _ (List.mem_append_right _ (List.mem_append_right _ (List.mem_append_right _ (List.mem_of_getElem? (i := 210) rfl))))) rfl
theorem wd_931 : Cond.fieldLink "java/lang/String" 15 "java/lang/String" "coder" "B" ∈ wG := wG_of (List.mem_append_right _ (List.mem_append_right _ (List.mem_append_right _ (List.mem_append_right _ (List.mem_of_getElem? (i := 211) rfl))))) rfl
theorem z_inX0 : ∀ w ∈ wsX00, w ∈ wG := by
  intro w hw
  obtain ⟨k, hk, rfl⟩ := List.mem_map.mp hw
  have hk := List.mem_range.mp hk
  match k, hk with
  | 0, _ => exact wd_165
  | 1, _ => exact wd_167
  | 2, _ => exact wd_169
  | k + 3, h => exact absurd h (by omega)
theorem z_inX1 : ∀ w ∈ wsX10, w ∈ wG := by
  intro w hw
  obtain ⟨k, hk, rfl⟩ := List.mem_map.mp hw
  have hk := List.mem_range.mp hk
  match k, hk with
  | 0, _ => exact wd_58
  | 1, _ => exact wd_60
  | k + 2, h => exact absurd h (by omega)
theorem z_inX2 : ∀ w ∈ wsX20, w ∈ wG := by
  intro w hw
  obtain ⟨k, hk, rfl⟩ := List.mem_map.mp hw
  have hk := List.mem_range.mp hk
  match k, hk with
  | 0, _ => exact wd_78
  | 1, _ => exact wd_80
  | 2, _ => exact wd_82
  | 3, _ => exact wd_84
  | 4, _ => exact wd_86
  | k + 5, h => exact absurd h (by omega)
theorem z_inX3 : ∀ w ∈ wsX30, w ∈ wG := by
  intro w hw
  obtain ⟨k, hk, rfl⟩ := List.mem_map.mp hw
  have hk := List.mem_range.mp hk
  match k, hk with
  | 0, _ => exact wd_142
  | 1, _ => exact wd_144
  | 2, _ => exact wd_146
  | 3, _ => exact wd_148
  | 4, _ => exact wd_150
  | 5, _ => exact wd_152
  | k + 6, h => exact absurd h (by omega)
theorem z_inX4 : ∀ w ∈ wsX40, w ∈ wG := by
  intro w hw
  obtain ⟨k, hk, rfl⟩ := List.mem_map.mp hw
  have hk := List.mem_range.mp hk
  match k, hk with
  | 0, _ => exact wd_120
  | 1, _ => exact wd_122
  | 2, _ => exact wd_124
  | k + 3, h => exact absurd h (by omega)
theorem z_inX5 : ∀ w ∈ wsX50, w ∈ wG := by
  intro w hw
  obtain ⟨k, hk, rfl⟩ := List.mem_map.mp hw
  have hk := List.mem_range.mp hk
  match k, hk with
  | 0, _ => exact wd_206
  | 1, _ => exact wd_208
  | 2, _ => exact wd_210
  | 3, _ => exact wd_212
  | 4, _ => exact wd_214
  | 5, _ => exact wd_216
  | 6, _ => exact wd_218
  | 7, _ => exact wd_220
  | 8, _ => exact wd_222
  | 9, _ => exact wd_224
  | 10, _ => exact wd_226
  | 11, _ => exact wd_228
  | k + 12, h => exact absurd h (by omega)
theorem z_inX6 : ∀ w ∈ wsX60, w ∈ wG := by
  intro w hw
  obtain ⟨k, hk, rfl⟩ := List.mem_map.mp hw
  have hk := List.mem_range.mp hk
  match k, hk with
  | 0, _ => exact wd_100
  | 1, _ => exact wd_102
  | 2, _ => exact wd_104
  | 3, _ => exact wd_106
  | k + 4, h => exact absurd h (by omega)
theorem z_inX7 : ∀ w ∈ wsX70, w ∈ wG := by
  intro w hw
  obtain ⟨k, hk, rfl⟩ := List.mem_map.mp hw
  have hk := List.mem_range.mp hk
  match k, hk with
  | 0, _ => exact wd_34
  | 1, _ => exact wd_36
  | 2, _ => exact wd_38
  | k + 3, h => exact absurd h (by omega)
theorem z_inX8 : ∀ w ∈ wsX80, w ∈ wG := by
  intro w hw
  obtain ⟨k, hk, rfl⟩ := List.mem_map.mp hw
  have hk := List.mem_range.mp hk
  match k, hk with
  | 0, _ => exact wd_357
  | 1, _ => exact wd_359
  | 2, _ => exact wd_361
  | 3, _ => exact wd_363
  | 4, _ => exact wd_365
  | 5, _ => exact wd_367
  | 6, _ => exact wd_369
  | 7, _ => exact wd_371
  | 8, _ => exact wd_373
  | 9, _ => exact wd_375
  | 10, _ => exact wd_377
  | 11, _ => exact wd_379
  | 12, _ => exact wd_381
  | 13, _ => exact wd_383
  | k + 14, h => exact absurd h (by omega)
theorem z_inX9 : ∀ w ∈ wsX90, w ∈ wG := by
  intro w hw
  obtain ⟨k, hk, rfl⟩ := List.mem_map.mp hw
  have hk := List.mem_range.mp hk
  match k, hk with
  | 0, _ => exact wd_676
  | 1, _ => exact wd_678
  | 2, _ => exact wd_680
  | 3, _ => exact wd_682
  | 4, _ => exact wd_684
  | 5, _ => exact wd_686
  | 6, _ => exact wd_688
  | 7, _ => exact wd_690
  | 8, _ => exact wd_692
  | 9, _ => exact wd_694
  | 10, _ => exact wd_696
  | 11, _ => exact wd_698
  | 12, _ => exact wd_700
  | 13, _ => exact wd_702
  | 14, _ => exact wd_704
  | 15, _ => exact wd_706
  | 16, _ => exact wd_708
  | 17, _ => exact wd_710
  | 18, _ => exact wd_712
  | 19, _ => exact wd_714
  | 20, _ => exact wd_716
  | 21, _ => exact wd_718
  | 22, _ => exact wd_720
  | k + 23, h => exact absurd h (by omega)
end
section
/-! each instruction, decoded -/
theorem dX0_init_0 : decode cX0_init 0 = .ok (.aload_n 0, 1) := by decide +kernel
theorem dX0_init_1 : decode cX0_init 1 = .ok (.invokespecial 3, 3) := by decide +kernel
theorem dX0_init_4 : decode cX0_init 4 = .ok (.aload_n 0, 1) := by decide +kernel
theorem dX0_init_5 : decode cX0_init 5 = .ok (.bipush 7, 2) := by decide +kernel
theorem dX0_init_7 : decode cX0_init 7 = .ok (.newarray .int, 2) := by decide +kernel
theorem dX0_init_9 : decode cX0_init 9 = .ok (.putfield 9, 3) := by decide +kernel
theorem dX0_init_12 : decode cX0_init 12 = .ok (.aload_n 0, 1) := by decide +kernel
theorem dX0_init_13 : decode cX0_init 13 = .ok (.bipush 7, 2) := by decide +kernel
theorem dX0_init_15 : decode cX0_init 15 = .ok (.newarray .int, 2) := by decide +kernel
theorem dX0_init_17 : decode cX0_init 17 = .ok (.putfield 15, 3) := by decide +kernel
theorem dX0_init_20 : decode cX0_init 20 = .ok (.aload_n 0, 1) := by decide +kernel
theorem dX0_init_21 : decode cX0_init 21 = .ok (.iconst 0, 1) := by decide +kernel
theorem dX0_init_22 : decode cX0_init 22 = .ok (.putfield 18, 3) := by decide +kernel
theorem dX0_init_25 : decode cX0_init 25 = .ok (.return_, 1) := by decide +kernel
theorem dX0_search_0 : decode cX0_search 0 = .ok (.iconst 1, 1) := by decide +kernel
theorem dX0_search_1 : decode cX0_search 1 = .ok (.istore_n 3, 1) := by decide +kernel
theorem dX0_search_2 : decode cX0_search 2 = .ok (.iload_n 3, 1) := by decide +kernel
theorem dX0_search_3 : decode cX0_search 3 = .ok (.aload_n 1, 1) := by decide +kernel
theorem dX0_search_4 : decode cX0_search 4 = .ok (.getfield 22, 3) := by decide +kernel
theorem dX0_search_7 : decode cX0_search 7 = .ok (.if_icmp .gt 27, 3) := by decide +kernel
theorem dX0_search_10 : decode cX0_search 10 = .ok (.aload_n 0, 1) := by decide +kernel
theorem dX0_search_11 : decode cX0_search 11 = .ok (.iload_n 3, 1) := by decide +kernel
theorem dX0_search_12 : decode cX0_search 12 = .ok (.putfield 18, 3) := by decide +kernel
theorem dX0_search_15 : decode cX0_search 15 = .ok (.aload_n 0, 1) := by decide +kernel
theorem dX0_search_16 : decode cX0_search 16 = .ok (.aload_n 1, 1) := by decide +kernel
theorem dX0_search_17 : decode cX0_search 17 = .ok (.aload_n 2, 1) := by decide +kernel
theorem dX0_search_18 : decode cX0_search 18 = .ok (.iconst 0, 1) := by decide +kernel
theorem dX0_search_19 : decode cX0_search 19 = .ok (.iconst 0, 1) := by decide +kernel
theorem dX0_search_20 : decode cX0_search 20 = .ok (.invokevirtual 27, 3) := by decide +kernel
theorem dX0_search_23 : decode cX0_search 23 = .ok (.ifCond .eq 5, 3) := by decide +kernel
theorem dX0_search_26 : decode cX0_search 26 = .ok (.iload_n 3, 1) := by decide +kernel
theorem dX0_search_27 : decode cX0_search 27 = .ok (.ireturn, 1) := by decide +kernel
theorem dX0_search_28 : decode cX0_search 28 = .ok (.iinc 3 1, 3) := by decide +kernel
theorem dX0_search_31 : decode cX0_search 31 = .ok (.goto (-29), 3) := by decide +kernel
theorem dX0_search_34 : decode cX0_search 34 = .ok (.bipush (-4), 2) := by decide +kernel
theorem dX0_search_36 : decode cX0_search 36 = .ok (.ireturn, 1) := by decide +kernel
theorem dX0_findsBolts_0 : decode cX0_findsBolts 0 = .ok (.iload_n 3, 1) := by decide +kernel
theorem dX0_findsBolts_1 : decode cX0_findsBolts 1 = .ok (.aload_n 1, 1) := by decide +kernel
theorem dX0_findsBolts_2 : decode cX0_findsBolts 2 = .ok (.getfield 22, 3) := by decide +kernel
theorem dX0_findsBolts_5 : decode cX0_findsBolts 5 = .ok (.if_icmp .lt 5, 3) := by decide +kernel
theorem dX0_findsBolts_8 : decode cX0_findsBolts 8 = .ok (.iconst 1, 1) := by decide +kernel
theorem dX0_findsBolts_9 : decode cX0_findsBolts 9 = .ok (.ireturn, 1) := by decide +kernel
theorem dX0_findsBolts_10 : decode cX0_findsBolts 10 = .ok (.iconst 0, 1) := by decide +kernel
theorem dX0_findsBolts_11 : decode cX0_findsBolts 11 = .ok (.istore 5, 2) := by decide +kernel
theorem dX0_findsBolts_13 : decode cX0_findsBolts 13 = .ok (.iload 5, 2) := by decide +kernel
theorem dX0_findsBolts_15 : decode cX0_findsBolts 15 = .ok (.iload 4, 2) := by decide +kernel
theorem dX0_findsBolts_17 : decode cX0_findsBolts 17 = .ok (.if_icmp .gt 40, 3) := by decide +kernel
theorem dX0_findsBolts_20 : decode cX0_findsBolts 20 = .ok (.iload 5, 2) := by decide +kernel
theorem dX0_findsBolts_22 : decode cX0_findsBolts 22 = .ok (.aload_n 0, 1) := by decide +kernel
theorem dX0_findsBolts_23 : decode cX0_findsBolts 23 = .ok (.getfield 18, 3) := by decide +kernel
theorem dX0_findsBolts_26 : decode cX0_findsBolts 26 = .ok (.if_icmp .ge 31, 3) := by decide +kernel
theorem dX0_findsBolts_29 : decode cX0_findsBolts 29 = .ok (.aload_n 0, 1) := by decide +kernel
theorem dX0_findsBolts_30 : decode cX0_findsBolts 30 = .ok (.getfield 9, 3) := by decide +kernel
theorem dX0_findsBolts_33 : decode cX0_findsBolts 33 = .ok (.iload_n 3, 1) := by decide +kernel
theorem dX0_findsBolts_34 : decode cX0_findsBolts 34 = .ok (.iload 5, 2) := by decide +kernel
theorem dX0_findsBolts_36 : decode cX0_findsBolts 36 = .ok (.iastore, 1) := by decide +kernel
theorem dX0_findsBolts_37 : decode cX0_findsBolts 37 = .ok (.aload_n 0, 1) := by decide +kernel
theorem dX0_findsBolts_38 : decode cX0_findsBolts 38 = .ok (.aload_n 1, 1) := by decide +kernel
theorem dX0_findsBolts_39 : decode cX0_findsBolts 39 = .ok (.aload_n 2, 1) := by decide +kernel
theorem dX0_findsBolts_40 : decode cX0_findsBolts 40 = .ok (.iload_n 3, 1) := by decide +kernel
theorem dX0_findsBolts_41 : decode cX0_findsBolts 41 = .ok (.iload 4, 2) := by decide +kernel
theorem dX0_findsBolts_43 : decode cX0_findsBolts 43 = .ok (.invokevirtual 31, 3) := by decide +kernel
theorem dX0_findsBolts_46 : decode cX0_findsBolts 46 = .ok (.ifCond .eq 5, 3) := by decide +kernel
theorem dX0_findsBolts_49 : decode cX0_findsBolts 49 = .ok (.iconst 1, 1) := by decide +kernel
theorem dX0_findsBolts_50 : decode cX0_findsBolts 50 = .ok (.ireturn, 1) := by decide +kernel
theorem dX0_findsBolts_51 : decode cX0_findsBolts 51 = .ok (.iinc 5 1, 3) := by decide +kernel
theorem dX0_findsBolts_54 : decode cX0_findsBolts 54 = .ok (.goto (-41), 3) := by decide +kernel
theorem dX0_findsBolts_57 : decode cX0_findsBolts 57 = .ok (.iconst 0, 1) := by decide +kernel
theorem dX0_findsBolts_58 : decode cX0_findsBolts 58 = .ok (.ireturn, 1) := by decide +kernel
theorem dX0_findsRest_0 : decode cX0_findsRest 0 = .ok (.aload_n 0, 1) := by decide +kernel
theorem dX0_findsRest_1 : decode cX0_findsRest 1 = .ok (.getfield 9, 3) := by decide +kernel
theorem dX0_findsRest_4 : decode cX0_findsRest 4 = .ok (.iload_n 3, 1) := by decide +kernel
theorem dX0_findsRest_5 : decode cX0_findsRest 5 = .ok (.iaload, 1) := by decide +kernel
theorem dX0_findsRest_6 : decode cX0_findsRest 6 = .ok (.istore 5, 2) := by decide +kernel
theorem dX0_findsRest_8 : decode cX0_findsRest 8 = .ok (.aload_n 0, 1) := by decide +kernel
theorem dX0_findsRest_9 : decode cX0_findsRest 9 = .ok (.getfield 15, 3) := by decide +kernel
theorem dX0_findsRest_12 : decode cX0_findsRest 12 = .ok (.iload 5, 2) := by decide +kernel
theorem dX0_findsRest_14 : decode cX0_findsRest 14 = .ok (.iaload, 1) := by decide +kernel
theorem dX0_findsRest_15 : decode cX0_findsRest 15 = .ok (.aload_n 2, 1) := by decide +kernel
theorem dX0_findsRest_16 : decode cX0_findsRest 16 = .ok (.iload_n 3, 1) := by decide +kernel
theorem dX0_findsRest_17 : decode cX0_findsRest 17 = .ok (.iaload, 1) := by decide +kernel
theorem dX0_findsRest_18 : decode cX0_findsRest 18 = .ok (.iadd, 1) := by decide +kernel
theorem dX0_findsRest_19 : decode cX0_findsRest 19 = .ok (.aload_n 1, 1) := by decide +kernel
theorem dX0_findsRest_20 : decode cX0_findsRest 20 = .ok (.getfield 34, 3) := by decide +kernel
theorem dX0_findsRest_23 : decode cX0_findsRest 23 = .ok (.if_icmp .le 5, 3) := by decide +kernel
theorem dX0_findsRest_26 : decode cX0_findsRest 26 = .ok (.iconst 0, 1) := by decide +kernel
theorem dX0_findsRest_27 : decode cX0_findsRest 27 = .ok (.ireturn, 1) := by decide +kernel
theorem dX0_findsRest_28 : decode cX0_findsRest 28 = .ok (.aload_n 0, 1) := by decide +kernel
theorem dX0_findsRest_29 : decode cX0_findsRest 29 = .ok (.getfield 15, 3) := by decide +kernel
theorem dX0_findsRest_32 : decode cX0_findsRest 32 = .ok (.iload 5, 2) := by decide +kernel
theorem dX0_findsRest_34 : decode cX0_findsRest 34 = .ok (.dup2, 1) := by decide +kernel
theorem dX0_findsRest_35 : decode cX0_findsRest 35 = .ok (.iaload, 1) := by decide +kernel
theorem dX0_findsRest_36 : decode cX0_findsRest 36 = .ok (.aload_n 2, 1) := by decide +kernel
theorem dX0_findsRest_37 : decode cX0_findsRest 37 = .ok (.iload_n 3, 1) := by decide +kernel
theorem dX0_findsRest_38 : decode cX0_findsRest 38 = .ok (.iaload, 1) := by decide +kernel
theorem dX0_findsRest_39 : decode cX0_findsRest 39 = .ok (.iadd, 1) := by decide +kernel
theorem dX0_findsRest_40 : decode cX0_findsRest 40 = .ok (.iastore, 1) := by decide +kernel
theorem dX0_findsRest_41 : decode cX0_findsRest 41 = .ok (.aload_n 0, 1) := by decide +kernel
theorem dX0_findsRest_42 : decode cX0_findsRest 42 = .ok (.aload_n 1, 1) := by decide +kernel
theorem dX0_findsRest_43 : decode cX0_findsRest 43 = .ok (.aload_n 2, 1) := by decide +kernel
theorem dX0_findsRest_44 : decode cX0_findsRest 44 = .ok (.iload_n 3, 1) := by decide +kernel
theorem dX0_findsRest_45 : decode cX0_findsRest 45 = .ok (.iconst 1, 1) := by decide +kernel
theorem dX0_findsRest_46 : decode cX0_findsRest 46 = .ok (.iadd, 1) := by decide +kernel
theorem dX0_findsRest_47 : decode cX0_findsRest 47 = .ok (.iload 4, 2) := by decide +kernel
theorem dX0_findsRest_49 : decode cX0_findsRest 49 = .ok (.iload 5, 2) := by decide +kernel
theorem dX0_findsRest_51 : decode cX0_findsRest 51 = .ok (.iconst 1, 1) := by decide +kernel
theorem dX0_findsRest_52 : decode cX0_findsRest 52 = .ok (.iadd, 1) := by decide +kernel
theorem dX0_findsRest_53 : decode cX0_findsRest 53 = .ok (.invokestatic 37, 3) := by decide +kernel
theorem dX0_findsRest_56 : decode cX0_findsRest 56 = .ok (.invokevirtual 27, 3) := by decide +kernel
theorem dX0_findsRest_59 : decode cX0_findsRest 59 = .ok (.istore 6, 2) := by decide +kernel
theorem dX0_findsRest_61 : decode cX0_findsRest 61 = .ok (.aload_n 0, 1) := by decide +kernel
theorem dX0_findsRest_62 : decode cX0_findsRest 62 = .ok (.getfield 15, 3) := by decide +kernel
theorem dX0_findsRest_65 : decode cX0_findsRest 65 = .ok (.iload 5, 2) := by decide +kernel
theorem dX0_findsRest_67 : decode cX0_findsRest 67 = .ok (.dup2, 1) := by decide +kernel
theorem dX0_findsRest_68 : decode cX0_findsRest 68 = .ok (.iaload, 1) := by decide +kernel
theorem dX0_findsRest_69 : decode cX0_findsRest 69 = .ok (.aload_n 2, 1) := by decide +kernel
theorem dX0_findsRest_70 : decode cX0_findsRest 70 = .ok (.iload_n 3, 1) := by decide +kernel
theorem dX0_findsRest_71 : decode cX0_findsRest 71 = .ok (.iaload, 1) := by decide +kernel
theorem dX0_findsRest_72 : decode cX0_findsRest 72 = .ok (.isub, 1) := by decide +kernel
theorem dX0_findsRest_73 : decode cX0_findsRest 73 = .ok (.iastore, 1) := by decide +kernel
theorem dX0_findsRest_74 : decode cX0_findsRest 74 = .ok (.iload 6, 2) := by decide +kernel
theorem dX0_findsRest_76 : decode cX0_findsRest 76 = .ok (.ireturn, 1) := by decide +kernel
theorem dX1_init_0 : decode cX1_init 0 = .ok (.aload_n 0, 1) := by decide +kernel
theorem dX1_init_1 : decode cX1_init 1 = .ok (.invokespecial 3, 3) := by decide +kernel
theorem dX1_init_4 : decode cX1_init 4 = .ok (.aload_n 0, 1) := by decide +kernel
theorem dX1_init_5 : decode cX1_init 5 = .ok (.bipush 7, 2) := by decide +kernel
theorem dX1_init_7 : decode cX1_init 7 = .ok (.newarray .int, 2) := by decide +kernel
theorem dX1_init_9 : decode cX1_init 9 = .ok (.putfield 9, 3) := by decide +kernel
theorem dX1_init_12 : decode cX1_init 12 = .ok (.aload_n 0, 1) := by decide +kernel
theorem dX1_init_13 : decode cX1_init 13 = .ok (.bipush 7, 2) := by decide +kernel
theorem dX1_init_15 : decode cX1_init 15 = .ok (.newarray .int, 2) := by decide +kernel
theorem dX1_init_17 : decode cX1_init 17 = .ok (.putfield 15, 3) := by decide +kernel
theorem dX1_init_20 : decode cX1_init 20 = .ok (.aload_n 0, 1) := by decide +kernel
theorem dX1_init_21 : decode cX1_init 21 = .ok (.invokevirtual 18, 3) := by decide +kernel
theorem dX1_init_24 : decode cX1_init 24 = .ok (.return_, 1) := by decide +kernel
theorem dX1_startAnew_0 : decode cX1_startAnew 0 = .ok (.iconst 0, 1) := by decide +kernel
theorem dX1_startAnew_1 : decode cX1_startAnew 1 = .ok (.istore_n 1, 1) := by decide +kernel
theorem dX1_startAnew_2 : decode cX1_startAnew 2 = .ok (.iload_n 1, 1) := by decide +kernel
theorem dX1_startAnew_3 : decode cX1_startAnew 3 = .ok (.bipush 7, 2) := by decide +kernel
theorem dX1_startAnew_5 : decode cX1_startAnew 5 = .ok (.if_icmp .ge 23, 3) := by decide +kernel
theorem dX1_startAnew_8 : decode cX1_startAnew 8 = .ok (.aload_n 0, 1) := by decide +kernel
theorem dX1_startAnew_9 : decode cX1_startAnew 9 = .ok (.getfield 9, 3) := by decide +kernel
theorem dX1_startAnew_12 : decode cX1_startAnew 12 = .ok (.iload_n 1, 1) := by decide +kernel
theorem dX1_startAnew_13 : decode cX1_startAnew 13 = .ok (.iload_n 1, 1) := by decide +kernel
theorem dX1_startAnew_14 : decode cX1_startAnew 14 = .ok (.iastore, 1) := by decide +kernel
theorem dX1_startAnew_15 : decode cX1_startAnew 15 = .ok (.aload_n 0, 1) := by decide +kernel
theorem dX1_startAnew_16 : decode cX1_startAnew 16 = .ok (.getfield 15, 3) := by decide +kernel
theorem dX1_startAnew_19 : decode cX1_startAnew 19 = .ok (.iload_n 1, 1) := by decide +kernel
theorem dX1_startAnew_20 : decode cX1_startAnew 20 = .ok (.iconst 0, 1) := by decide +kernel
theorem dX1_startAnew_21 : decode cX1_startAnew 21 = .ok (.iastore, 1) := by decide +kernel
theorem dX1_startAnew_22 : decode cX1_startAnew 22 = .ok (.iinc 1 1, 3) := by decide +kernel
theorem dX1_startAnew_25 : decode cX1_startAnew 25 = .ok (.goto (-23), 3) := by decide +kernel
theorem dX1_startAnew_28 : decode cX1_startAnew 28 = .ok (.return_, 1) := by decide +kernel
theorem dX1_placeOf_0 : decode cX1_placeOf 0 = .ok (.iconst 0, 1) := by decide +kernel
theorem dX1_placeOf_1 : decode cX1_placeOf 1 = .ok (.istore_n 2, 1) := by decide +kernel
theorem dX1_placeOf_2 : decode cX1_placeOf 2 = .ok (.iload_n 2, 1) := by decide +kernel
theorem dX1_placeOf_3 : decode cX1_placeOf 3 = .ok (.bipush 7, 2) := by decide +kernel
theorem dX1_placeOf_5 : decode cX1_placeOf 5 = .ok (.if_icmp .ge 21, 3) := by decide +kernel
theorem dX1_placeOf_8 : decode cX1_placeOf 8 = .ok (.aload_n 0, 1) := by decide +kernel
theorem dX1_placeOf_9 : decode cX1_placeOf 9 = .ok (.getfield 9, 3) := by decide +kernel
theorem dX1_placeOf_12 : decode cX1_placeOf 12 = .ok (.iload_n 2, 1) := by decide +kernel
theorem dX1_placeOf_13 : decode cX1_placeOf 13 = .ok (.iaload, 1) := by decide +kernel
theorem dX1_placeOf_14 : decode cX1_placeOf 14 = .ok (.iload_n 1, 1) := by decide +kernel
theorem dX1_placeOf_15 : decode cX1_placeOf 15 = .ok (.if_icmp .ne 5, 3) := by decide +kernel
theorem dX1_placeOf_18 : decode cX1_placeOf 18 = .ok (.iload_n 2, 1) := by decide +kernel
theorem dX1_placeOf_19 : decode cX1_placeOf 19 = .ok (.ireturn, 1) := by decide +kernel
theorem dX1_placeOf_20 : decode cX1_placeOf 20 = .ok (.iinc 2 1, 3) := by decide +kernel
theorem dX1_placeOf_23 : decode cX1_placeOf 23 = .ok (.goto (-21), 3) := by decide +kernel
theorem dX1_placeOf_26 : decode cX1_placeOf 26 = .ok (.iconst 0, 1) := by decide +kernel
theorem dX1_placeOf_27 : decode cX1_placeOf 27 = .ok (.ireturn, 1) := by decide +kernel
theorem dX1_swapPlaces_0 : decode cX1_swapPlaces 0 = .ok (.aload_n 0, 1) := by decide +kernel
theorem dX1_swapPlaces_1 : decode cX1_swapPlaces 1 = .ok (.getfield 9, 3) := by decide +kernel
theorem dX1_swapPlaces_4 : decode cX1_swapPlaces 4 = .ok (.iload_n 1, 1) := by decide +kernel
theorem dX1_swapPlaces_5 : decode cX1_swapPlaces 5 = .ok (.iaload, 1) := by decide +kernel
theorem dX1_swapPlaces_6 : decode cX1_swapPlaces 6 = .ok (.istore_n 3, 1) := by decide +kernel
theorem dX1_swapPlaces_7 : decode cX1_swapPlaces 7 = .ok (.aload_n 0, 1) := by decide +kernel
theorem dX1_swapPlaces_8 : decode cX1_swapPlaces 8 = .ok (.getfield 9, 3) := by decide +kernel
theorem dX1_swapPlaces_11 : decode cX1_swapPlaces 11 = .ok (.iload_n 1, 1) := by decide +kernel
theorem dX1_swapPlaces_12 : decode cX1_swapPlaces 12 = .ok (.aload_n 0, 1) := by decide +kernel
theorem dX1_swapPlaces_13 : decode cX1_swapPlaces 13 = .ok (.getfield 9, 3) := by decide +kernel
theorem dX1_swapPlaces_16 : decode cX1_swapPlaces 16 = .ok (.iload_n 2, 1) := by decide +kernel
theorem dX1_swapPlaces_17 : decode cX1_swapPlaces 17 = .ok (.iaload, 1) := by decide +kernel
theorem dX1_swapPlaces_18 : decode cX1_swapPlaces 18 = .ok (.iastore, 1) := by decide +kernel
theorem dX1_swapPlaces_19 : decode cX1_swapPlaces 19 = .ok (.aload_n 0, 1) := by decide +kernel
theorem dX1_swapPlaces_20 : decode cX1_swapPlaces 20 = .ok (.getfield 9, 3) := by decide +kernel
theorem dX1_swapPlaces_23 : decode cX1_swapPlaces 23 = .ok (.iload_n 2, 1) := by decide +kernel
theorem dX1_swapPlaces_24 : decode cX1_swapPlaces 24 = .ok (.iload_n 3, 1) := by decide +kernel
theorem dX1_swapPlaces_25 : decode cX1_swapPlaces 25 = .ok (.iastore, 1) := by decide +kernel
theorem dX1_swapPlaces_26 : decode cX1_swapPlaces 26 = .ok (.iconst 0, 1) := by decide +kernel
theorem dX1_swapPlaces_27 : decode cX1_swapPlaces 27 = .ok (.istore 4, 2) := by decide +kernel
theorem dX1_swapPlaces_29 : decode cX1_swapPlaces 29 = .ok (.iload 4, 2) := by decide +kernel
theorem dX1_swapPlaces_31 : decode cX1_swapPlaces 31 = .ok (.bipush 7, 2) := by decide +kernel
theorem dX1_swapPlaces_33 : decode cX1_swapPlaces 33 = .ok (.if_icmp .ge 17, 3) := by decide +kernel
theorem dX1_swapPlaces_36 : decode cX1_swapPlaces 36 = .ok (.aload_n 0, 1) := by decide +kernel
theorem dX1_swapPlaces_37 : decode cX1_swapPlaces 37 = .ok (.getfield 15, 3) := by decide +kernel
theorem dX1_swapPlaces_40 : decode cX1_swapPlaces 40 = .ok (.iload 4, 2) := by decide +kernel
theorem dX1_swapPlaces_42 : decode cX1_swapPlaces 42 = .ok (.iconst 0, 1) := by decide +kernel
theorem dX1_swapPlaces_43 : decode cX1_swapPlaces 43 = .ok (.iastore, 1) := by decide +kernel
theorem dX1_swapPlaces_44 : decode cX1_swapPlaces 44 = .ok (.iinc 4 1, 3) := by decide +kernel
theorem dX1_swapPlaces_47 : decode cX1_swapPlaces 47 = .ok (.goto (-18), 3) := by decide +kernel
theorem dX1_swapPlaces_50 : decode cX1_swapPlaces 50 = .ok (.return_, 1) := by decide +kernel
theorem dX2_init_0 : decode cX2_init 0 = .ok (.aload_n 0, 1) := by decide +kernel
theorem dX2_init_1 : decode cX2_init 1 = .ok (.invokespecial 3, 3) := by decide +kernel
theorem dX2_init_4 : decode cX2_init 4 = .ok (.aload_n 0, 1) := by decide +kernel
theorem dX2_init_5 : decode cX2_init 5 = .ok (.iconst 0, 1) := by decide +kernel
theorem dX2_init_6 : decode cX2_init 6 = .ok (.putfield 9, 3) := by decide +kernel
theorem dX2_init_9 : decode cX2_init 9 = .ok (.aload_n 0, 1) := by decide +kernel
theorem dX2_init_10 : decode cX2_init 10 = .ok (.iconst 0, 1) := by decide +kernel
theorem dX2_init_11 : decode cX2_init 11 = .ok (.putfield 15, 3) := by decide +kernel
theorem dX2_init_14 : decode cX2_init 14 = .ok (.aload_n 0, 1) := by decide +kernel
theorem dX2_init_15 : decode cX2_init 15 = .ok (.iconst 1, 1) := by decide +kernel
theorem dX2_init_16 : decode cX2_init 16 = .ok (.iload_n 1, 1) := by decide +kernel
theorem dX2_init_17 : decode cX2_init 17 = .ok (.invokestatic 18, 3) := by decide +kernel
theorem dX2_init_20 : decode cX2_init 20 = .ok (.putfield 24, 3) := by decide +kernel
theorem dX2_init_23 : decode cX2_init 23 = .ok (.aload_n 0, 1) := by decide +kernel
theorem dX2_init_24 : decode cX2_init 24 = .ok (.aload_n 0, 1) := by decide +kernel
theorem dX2_init_25 : decode cX2_init 25 = .ok (.getfield 24, 3) := by decide +kernel
theorem dX2_init_28 : decode cX2_init 28 = .ok (.bipush 7, 2) := by decide +kernel
theorem dX2_init_30 : decode cX2_init 30 = .ok (.imul, 1) := by decide +kernel
theorem dX2_init_31 : decode cX2_init 31 = .ok (.newarray .int, 2) := by decide +kernel
theorem dX2_init_33 : decode cX2_init 33 = .ok (.putfield 27, 3) := by decide +kernel
theorem dX2_init_36 : decode cX2_init 36 = .ok (.aload_n 0, 1) := by decide +kernel
theorem dX2_init_37 : decode cX2_init 37 = .ok (.aload_n 0, 1) := by decide +kernel
theorem dX2_init_38 : decode cX2_init 38 = .ok (.getfield 24, 3) := by decide +kernel
theorem dX2_init_41 : decode cX2_init 41 = .ok (.bipush 7, 2) := by decide +kernel
theorem dX2_init_43 : decode cX2_init 43 = .ok (.imul, 1) := by decide +kernel
theorem dX2_init_44 : decode cX2_init 44 = .ok (.newarray .int, 2) := by decide +kernel
theorem dX2_init_46 : decode cX2_init 46 = .ok (.putfield 31, 3) := by decide +kernel
theorem dX2_init_49 : decode cX2_init 49 = .ok (.return_, 1) := by decide +kernel
theorem dX2_clear_0 : decode cX2_clear 0 = .ok (.aload_n 0, 1) := by decide +kernel
theorem dX2_clear_1 : decode cX2_clear 1 = .ok (.iconst 0, 1) := by decide +kernel
theorem dX2_clear_2 : decode cX2_clear 2 = .ok (.putfield 9, 3) := by decide +kernel
theorem dX2_clear_5 : decode cX2_clear 5 = .ok (.return_, 1) := by decide +kernel
theorem dX2_push_0 : decode cX2_push 0 = .ok (.iconst 0, 1) := by decide +kernel
theorem dX2_push_1 : decode cX2_push 1 = .ok (.istore_n 2, 1) := by decide +kernel
theorem dX2_push_2 : decode cX2_push 2 = .ok (.iload_n 2, 1) := by decide +kernel
theorem dX2_push_3 : decode cX2_push 3 = .ok (.bipush 7, 2) := by decide +kernel
theorem dX2_push_5 : decode cX2_push 5 = .ok (.if_icmp .ge 49, 3) := by decide +kernel
theorem dX2_push_8 : decode cX2_push 8 = .ok (.aload_n 0, 1) := by decide +kernel
theorem dX2_push_9 : decode cX2_push 9 = .ok (.getfield 27, 3) := by decide +kernel
theorem dX2_push_12 : decode cX2_push 12 = .ok (.aload_n 0, 1) := by decide +kernel
theorem dX2_push_13 : decode cX2_push 13 = .ok (.getfield 15, 3) := by decide +kernel
theorem dX2_push_16 : decode cX2_push 16 = .ok (.bipush 7, 2) := by decide +kernel
theorem dX2_push_18 : decode cX2_push 18 = .ok (.imul, 1) := by decide +kernel
theorem dX2_push_19 : decode cX2_push 19 = .ok (.iload_n 2, 1) := by decide +kernel
theorem dX2_push_20 : decode cX2_push 20 = .ok (.iadd, 1) := by decide +kernel
theorem dX2_push_21 : decode cX2_push 21 = .ok (.aload_n 1, 1) := by decide +kernel
theorem dX2_push_22 : decode cX2_push 22 = .ok (.getfield 34, 3) := by decide +kernel
theorem dX2_push_25 : decode cX2_push 25 = .ok (.iload_n 2, 1) := by decide +kernel
theorem dX2_push_26 : decode cX2_push 26 = .ok (.iaload, 1) := by decide +kernel
theorem dX2_push_27 : decode cX2_push 27 = .ok (.iastore, 1) := by decide +kernel
theorem dX2_push_28 : decode cX2_push 28 = .ok (.aload_n 0, 1) := by decide +kernel
theorem dX2_push_29 : decode cX2_push 29 = .ok (.getfield 31, 3) := by decide +kernel
theorem dX2_push_32 : decode cX2_push 32 = .ok (.aload_n 0, 1) := by decide +kernel
theorem dX2_push_33 : decode cX2_push 33 = .ok (.getfield 15, 3) := by decide +kernel
theorem dX2_push_36 : decode cX2_push 36 = .ok (.bipush 7, 2) := by decide +kernel
theorem dX2_push_38 : decode cX2_push 38 = .ok (.imul, 1) := by decide +kernel
theorem dX2_push_39 : decode cX2_push 39 = .ok (.iload_n 2, 1) := by decide +kernel
theorem dX2_push_40 : decode cX2_push 40 = .ok (.iadd, 1) := by decide +kernel
theorem dX2_push_41 : decode cX2_push 41 = .ok (.aload_n 1, 1) := by decide +kernel
theorem dX2_push_42 : decode cX2_push 42 = .ok (.getfield 37, 3) := by decide +kernel
theorem dX2_push_45 : decode cX2_push 45 = .ok (.iload_n 2, 1) := by decide +kernel
theorem dX2_push_46 : decode cX2_push 46 = .ok (.iaload, 1) := by decide +kernel
theorem dX2_push_47 : decode cX2_push 47 = .ok (.iastore, 1) := by decide +kernel
theorem dX2_push_48 : decode cX2_push 48 = .ok (.iinc 2 1, 3) := by decide +kernel
theorem dX2_push_51 : decode cX2_push 51 = .ok (.goto (-49), 3) := by decide +kernel
theorem dX2_push_54 : decode cX2_push 54 = .ok (.aload_n 0, 1) := by decide +kernel
theorem dX2_push_55 : decode cX2_push 55 = .ok (.aload_n 0, 1) := by decide +kernel
theorem dX2_push_56 : decode cX2_push 56 = .ok (.getfield 15, 3) := by decide +kernel
theorem dX2_push_59 : decode cX2_push 59 = .ok (.iconst 1, 1) := by decide +kernel
theorem dX2_push_60 : decode cX2_push 60 = .ok (.iadd, 1) := by decide +kernel
theorem dX2_push_61 : decode cX2_push 61 = .ok (.aload_n 0, 1) := by decide +kernel
theorem dX2_push_62 : decode cX2_push 62 = .ok (.getfield 24, 3) := by decide +kernel
theorem dX2_push_65 : decode cX2_push 65 = .ok (.if_icmp .ge 12, 3) := by decide +kernel
theorem dX2_push_68 : decode cX2_push 68 = .ok (.aload_n 0, 1) := by decide +kernel
theorem dX2_push_69 : decode cX2_push 69 = .ok (.getfield 15, 3) := by decide +kernel
theorem dX2_push_72 : decode cX2_push 72 = .ok (.iconst 1, 1) := by decide +kernel
theorem dX2_push_73 : decode cX2_push 73 = .ok (.iadd, 1) := by decide +kernel
theorem dX2_push_74 : decode cX2_push 74 = .ok (.goto 4, 3) := by decide +kernel
theorem dX2_push_77 : decode cX2_push 77 = .ok (.iconst 0, 1) := by decide +kernel
theorem dX2_push_78 : decode cX2_push 78 = .ok (.putfield 15, 3) := by decide +kernel
theorem dX2_push_81 : decode cX2_push 81 = .ok (.aload_n 0, 1) := by decide +kernel
theorem dX2_push_82 : decode cX2_push 82 = .ok (.aload_n 0, 1) := by decide +kernel
theorem dX2_push_83 : decode cX2_push 83 = .ok (.getfield 9, 3) := by decide +kernel
theorem dX2_push_86 : decode cX2_push 86 = .ok (.iconst 1, 1) := by decide +kernel
theorem dX2_push_87 : decode cX2_push 87 = .ok (.iadd, 1) := by decide +kernel
theorem dX2_push_88 : decode cX2_push 88 = .ok (.aload_n 0, 1) := by decide +kernel
theorem dX2_push_89 : decode cX2_push 89 = .ok (.getfield 24, 3) := by decide +kernel
theorem dX2_push_92 : decode cX2_push 92 = .ok (.invokestatic 38, 3) := by decide +kernel
theorem dX2_push_95 : decode cX2_push 95 = .ok (.putfield 9, 3) := by decide +kernel
theorem dX2_push_98 : decode cX2_push 98 = .ok (.return_, 1) := by decide +kernel
theorem dX2_popInto_0 : decode cX2_popInto 0 = .ok (.aload_n 0, 1) := by decide +kernel
theorem dX2_popInto_1 : decode cX2_popInto 1 = .ok (.getfield 9, 3) := by decide +kernel
theorem dX2_popInto_4 : decode cX2_popInto 4 = .ok (.ifCond .ne 4, 3) := by decide +kernel
theorem dX2_popInto_7 : decode cX2_popInto 7 = .ok (.return_, 1) := by decide +kernel
theorem dX2_popInto_8 : decode cX2_popInto 8 = .ok (.aload_n 0, 1) := by decide +kernel
theorem dX2_popInto_9 : decode cX2_popInto 9 = .ok (.dup, 1) := by decide +kernel
theorem dX2_popInto_10 : decode cX2_popInto 10 = .ok (.getfield 9, 3) := by decide +kernel
theorem dX2_popInto_13 : decode cX2_popInto 13 = .ok (.iconst 1, 1) := by decide +kernel
theorem dX2_popInto_14 : decode cX2_popInto 14 = .ok (.isub, 1) := by decide +kernel
theorem dX2_popInto_15 : decode cX2_popInto 15 = .ok (.putfield 9, 3) := by decide +kernel
theorem dX2_popInto_18 : decode cX2_popInto 18 = .ok (.aload_n 0, 1) := by decide +kernel
theorem dX2_popInto_19 : decode cX2_popInto 19 = .ok (.aload_n 0, 1) := by decide +kernel
theorem dX2_popInto_20 : decode cX2_popInto 20 = .ok (.getfield 15, 3) := by decide +kernel
theorem dX2_popInto_23 : decode cX2_popInto 23 = .ok (.ifCond .le 12, 3) := by decide +kernel
theorem dX2_popInto_26 : decode cX2_popInto 26 = .ok (.aload_n 0, 1) := by decide +kernel
theorem dX2_popInto_27 : decode cX2_popInto 27 = .ok (.getfield 15, 3) := by decide +kernel
theorem dX2_popInto_30 : decode cX2_popInto 30 = .ok (.iconst 1, 1) := by decide +kernel
theorem dX2_popInto_31 : decode cX2_popInto 31 = .ok (.isub, 1) := by decide +kernel
theorem dX2_popInto_32 : decode cX2_popInto 32 = .ok (.goto 9, 3) := by decide +kernel
theorem dX2_popInto_35 : decode cX2_popInto 35 = .ok (.aload_n 0, 1) := by decide +kernel
theorem dX2_popInto_36 : decode cX2_popInto 36 = .ok (.getfield 24, 3) := by decide +kernel
theorem dX2_popInto_39 : decode cX2_popInto 39 = .ok (.iconst 1, 1) := by decide +kernel
theorem dX2_popInto_40 : decode cX2_popInto 40 = .ok (.isub, 1) := by decide +kernel
theorem dX2_popInto_41 : decode cX2_popInto 41 = .ok (.putfield 15, 3) := by decide +kernel
theorem dX2_popInto_44 : decode cX2_popInto 44 = .ok (.iconst 0, 1) := by decide +kernel
theorem dX2_popInto_45 : decode cX2_popInto 45 = .ok (.istore_n 2, 1) := by decide +kernel
theorem dX2_popInto_46 : decode cX2_popInto 46 = .ok (.iload_n 2, 1) := by decide +kernel
theorem dX2_popInto_47 : decode cX2_popInto 47 = .ok (.bipush 7, 2) := by decide +kernel
theorem dX2_popInto_49 : decode cX2_popInto 49 = .ok (.if_icmp .ge 49, 3) := by decide +kernel
theorem dX2_popInto_52 : decode cX2_popInto 52 = .ok (.aload_n 1, 1) := by decide +kernel
theorem dX2_popInto_53 : decode cX2_popInto 53 = .ok (.getfield 34, 3) := by decide +kernel
theorem dX2_popInto_56 : decode cX2_popInto 56 = .ok (.iload_n 2, 1) := by decide +kernel
theorem dX2_popInto_57 : decode cX2_popInto 57 = .ok (.aload_n 0, 1) := by decide +kernel
theorem dX2_popInto_58 : decode cX2_popInto 58 = .ok (.getfield 27, 3) := by decide +kernel
theorem dX2_popInto_61 : decode cX2_popInto 61 = .ok (.aload_n 0, 1) := by decide +kernel
theorem dX2_popInto_62 : decode cX2_popInto 62 = .ok (.getfield 15, 3) := by decide +kernel
theorem dX2_popInto_65 : decode cX2_popInto 65 = .ok (.bipush 7, 2) := by decide +kernel
theorem dX2_popInto_67 : decode cX2_popInto 67 = .ok (.imul, 1) := by decide +kernel
theorem dX2_popInto_68 : decode cX2_popInto 68 = .ok (.iload_n 2, 1) := by decide +kernel
theorem dX2_popInto_69 : decode cX2_popInto 69 = .ok (.iadd, 1) := by decide +kernel
theorem dX2_popInto_70 : decode cX2_popInto 70 = .ok (.iaload, 1) := by decide +kernel
theorem dX2_popInto_71 : decode cX2_popInto 71 = .ok (.iastore, 1) := by decide +kernel
theorem dX2_popInto_72 : decode cX2_popInto 72 = .ok (.aload_n 1, 1) := by decide +kernel
theorem dX2_popInto_73 : decode cX2_popInto 73 = .ok (.getfield 37, 3) := by decide +kernel
theorem dX2_popInto_76 : decode cX2_popInto 76 = .ok (.iload_n 2, 1) := by decide +kernel
theorem dX2_popInto_77 : decode cX2_popInto 77 = .ok (.aload_n 0, 1) := by decide +kernel
theorem dX2_popInto_78 : decode cX2_popInto 78 = .ok (.getfield 31, 3) := by decide +kernel
theorem dX2_popInto_81 : decode cX2_popInto 81 = .ok (.aload_n 0, 1) := by decide +kernel
theorem dX2_popInto_82 : decode cX2_popInto 82 = .ok (.getfield 15, 3) := by decide +kernel
theorem dX2_popInto_85 : decode cX2_popInto 85 = .ok (.bipush 7, 2) := by decide +kernel
theorem dX2_popInto_87 : decode cX2_popInto 87 = .ok (.imul, 1) := by decide +kernel
theorem dX2_popInto_88 : decode cX2_popInto 88 = .ok (.iload_n 2, 1) := by decide +kernel
theorem dX2_popInto_89 : decode cX2_popInto 89 = .ok (.iadd, 1) := by decide +kernel
theorem dX2_popInto_90 : decode cX2_popInto 90 = .ok (.iaload, 1) := by decide +kernel
theorem dX2_popInto_91 : decode cX2_popInto 91 = .ok (.iastore, 1) := by decide +kernel
theorem dX2_popInto_92 : decode cX2_popInto 92 = .ok (.iinc 2 1, 3) := by decide +kernel
theorem dX2_popInto_95 : decode cX2_popInto 95 = .ok (.goto (-49), 3) := by decide +kernel
theorem dX2_popInto_98 : decode cX2_popInto 98 = .ok (.return_, 1) := by decide +kernel
theorem dX3_init_0 : decode cX3_init 0 = .ok (.aload_n 0, 1) := by decide +kernel
theorem dX3_init_1 : decode cX3_init 1 = .ok (.invokespecial 3, 3) := by decide +kernel
theorem dX3_init_4 : decode cX3_init 4 = .ok (.aload_n 0, 1) := by decide +kernel
theorem dX3_init_5 : decode cX3_init 5 = .ok (.bipush 7, 2) := by decide +kernel
theorem dX3_init_7 : decode cX3_init 7 = .ok (.newarray .int, 2) := by decide +kernel
theorem dX3_init_9 : decode cX3_init 9 = .ok (.putfield 9, 3) := by decide +kernel
theorem dX3_init_12 : decode cX3_init 12 = .ok (.aload_n 0, 1) := by decide +kernel
theorem dX3_init_13 : decode cX3_init 13 = .ok (.iconst 0, 1) := by decide +kernel
theorem dX3_init_14 : decode cX3_init 14 = .ok (.putfield 15, 3) := by decide +kernel
theorem dX3_init_17 : decode cX3_init 17 = .ok (.aload_n 0, 1) := by decide +kernel
theorem dX3_init_18 : decode cX3_init 18 = .ok (.iconst 0, 1) := by decide +kernel
theorem dX3_init_19 : decode cX3_init 19 = .ok (.putfield 19, 3) := by decide +kernel
theorem dX3_init_22 : decode cX3_init 22 = .ok (.aload_n 0, 1) := by decide +kernel
theorem dX3_init_23 : decode cX3_init 23 = .ok (.bipush 7, 2) := by decide +kernel
theorem dX3_init_25 : decode cX3_init 25 = .ok (.newarray .int, 2) := by decide +kernel
theorem dX3_init_27 : decode cX3_init 27 = .ok (.putfield 23, 3) := by decide +kernel
theorem dX3_init_30 : decode cX3_init 30 = .ok (.aload_n 0, 1) := by decide +kernel
theorem dX3_init_31 : decode cX3_init 31 = .ok (.bipush 7, 2) := by decide +kernel
theorem dX3_init_33 : decode cX3_init 33 = .ok (.newarray .int, 2) := by decide +kernel
theorem dX3_init_35 : decode cX3_init 35 = .ok (.putfield 26, 3) := by decide +kernel
theorem dX3_init_38 : decode cX3_init 38 = .ok (.aload_n 0, 1) := by decide +kernel
theorem dX3_init_39 : decode cX3_init 39 = .ok (.iconst 0, 1) := by decide +kernel
theorem dX3_init_40 : decode cX3_init 40 = .ok (.putfield 29, 3) := by decide +kernel
theorem dX3_init_43 : decode cX3_init 43 = .ok (.return_, 1) := by decide +kernel
theorem dX3_search_0 : decode cX3_search 0 = .ok (.aload_n 0, 1) := by decide +kernel
theorem dX3_search_1 : decode cX3_search 1 = .ok (.ldc 34, 2) := by decide +kernel
theorem dX3_search_3 : decode cX3_search 3 = .ok (.putfield 19, 3) := by decide +kernel
theorem dX3_search_6 : decode cX3_search 6 = .ok (.aload_n 0, 1) := by decide +kernel
theorem dX3_search_7 : decode cX3_search 7 = .ok (.iconst 0, 1) := by decide +kernel
theorem dX3_search_8 : decode cX3_search 8 = .ok (.putfield 29, 3) := by decide +kernel
theorem dX3_search_11 : decode cX3_search 11 = .ok (.aload_n 0, 1) := by decide +kernel
theorem dX3_search_12 : decode cX3_search 12 = .ok (.aload_n 1, 1) := by decide +kernel
theorem dX3_search_13 : decode cX3_search 13 = .ok (.iconst 0, 1) := by decide +kernel
theorem dX3_search_14 : decode cX3_search 14 = .ok (.iconst 0, 1) := by decide +kernel
theorem dX3_search_15 : decode cX3_search 15 = .ok (.invokevirtual 35, 3) := by decide +kernel
theorem dX3_search_18 : decode cX3_search 18 = .ok (.aload_n 0, 1) := by decide +kernel
theorem dX3_search_19 : decode cX3_search 19 = .ok (.iconst 1, 1) := by decide +kernel
theorem dX3_search_20 : decode cX3_search 20 = .ok (.putfield 15, 3) := by decide +kernel
theorem dX3_search_23 : decode cX3_search 23 = .ok (.return_, 1) := by decide +kernel
theorem dX3_tryPlace_0 : decode cX3_tryPlace 0 = .ok (.iload_n 2, 1) := by decide +kernel
theorem dX3_tryPlace_1 : decode cX3_tryPlace 1 = .ok (.aload_n 1, 1) := by decide +kernel
theorem dX3_tryPlace_2 : decode cX3_tryPlace 2 = .ok (.getfield 39, 3) := by decide +kernel
theorem dX3_tryPlace_5 : decode cX3_tryPlace 5 = .ok (.if_icmp .lt 41, 3) := by decide +kernel
theorem dX3_tryPlace_8 : decode cX3_tryPlace 8 = .ok (.aload_n 0, 1) := by decide +kernel
theorem dX3_tryPlace_9 : decode cX3_tryPlace 9 = .ok (.iload_n 3, 1) := by decide +kernel
theorem dX3_tryPlace_10 : decode cX3_tryPlace 10 = .ok (.putfield 19, 3) := by decide +kernel
theorem dX3_tryPlace_13 : decode cX3_tryPlace 13 = .ok (.iconst 0, 1) := by decide +kernel
theorem dX3_tryPlace_14 : decode cX3_tryPlace 14 = .ok (.istore 4, 2) := by decide +kernel
theorem dX3_tryPlace_16 : decode cX3_tryPlace 16 = .ok (.iload 4, 2) := by decide +kernel
theorem dX3_tryPlace_18 : decode cX3_tryPlace 18 = .ok (.aload_n 1, 1) := by decide +kernel
theorem dX3_tryPlace_19 : decode cX3_tryPlace 19 = .ok (.getfield 39, 3) := by decide +kernel
theorem dX3_tryPlace_22 : decode cX3_tryPlace 22 = .ok (.if_icmp .ge 23, 3) := by decide +kernel
theorem dX3_tryPlace_25 : decode cX3_tryPlace 25 = .ok (.aload_n 0, 1) := by decide +kernel
theorem dX3_tryPlace_26 : decode cX3_tryPlace 26 = .ok (.getfield 9, 3) := by decide +kernel
theorem dX3_tryPlace_29 : decode cX3_tryPlace 29 = .ok (.iload 4, 2) := by decide +kernel
theorem dX3_tryPlace_31 : decode cX3_tryPlace 31 = .ok (.aload_n 0, 1) := by decide +kernel
theorem dX3_tryPlace_32 : decode cX3_tryPlace 32 = .ok (.getfield 23, 3) := by decide +kernel
theorem dX3_tryPlace_35 : decode cX3_tryPlace 35 = .ok (.iload 4, 2) := by decide +kernel
theorem dX3_tryPlace_37 : decode cX3_tryPlace 37 = .ok (.iaload, 1) := by decide +kernel
theorem dX3_tryPlace_38 : decode cX3_tryPlace 38 = .ok (.iastore, 1) := by decide +kernel
theorem dX3_tryPlace_39 : decode cX3_tryPlace 39 = .ok (.iinc 4 1, 3) := by decide +kernel
theorem dX3_tryPlace_42 : decode cX3_tryPlace 42 = .ok (.goto (-26), 3) := by decide +kernel
theorem dX3_tryPlace_45 : decode cX3_tryPlace 45 = .ok (.return_, 1) := by decide +kernel
theorem dX3_tryPlace_46 : decode cX3_tryPlace 46 = .ok (.iconst 0, 1) := by decide +kernel
theorem dX3_tryPlace_47 : decode cX3_tryPlace 47 = .ok (.istore 4, 2) := by decide +kernel
theorem dX3_tryPlace_49 : decode cX3_tryPlace 49 = .ok (.iload 4, 2) := by decide +kernel
theorem dX3_tryPlace_51 : decode cX3_tryPlace 51 = .ok (.aload_n 1, 1) := by decide +kernel
theorem dX3_tryPlace_52 : decode cX3_tryPlace 52 = .ok (.getfield 39, 3) := by decide +kernel
theorem dX3_tryPlace_55 : decode cX3_tryPlace 55 = .ok (.if_icmp .ge 27, 3) := by decide +kernel
theorem dX3_tryPlace_58 : decode cX3_tryPlace 58 = .ok (.aload_n 0, 1) := by decide +kernel
theorem dX3_tryPlace_59 : decode cX3_tryPlace 59 = .ok (.iload 4, 2) := by decide +kernel
theorem dX3_tryPlace_61 : decode cX3_tryPlace 61 = .ok (.invokevirtual 44, 3) := by decide +kernel
theorem dX3_tryPlace_64 : decode cX3_tryPlace 64 = .ok (.ifCond .ne 12, 3) := by decide +kernel
theorem dX3_tryPlace_67 : decode cX3_tryPlace 67 = .ok (.aload_n 0, 1) := by decide +kernel
theorem dX3_tryPlace_68 : decode cX3_tryPlace 68 = .ok (.aload_n 1, 1) := by decide +kernel
theorem dX3_tryPlace_69 : decode cX3_tryPlace 69 = .ok (.iload 4, 2) := by decide +kernel
theorem dX3_tryPlace_71 : decode cX3_tryPlace 71 = .ok (.iload_n 2, 1) := by decide +kernel
theorem dX3_tryPlace_72 : decode cX3_tryPlace 72 = .ok (.iload_n 3, 1) := by decide +kernel
theorem dX3_tryPlace_73 : decode cX3_tryPlace 73 = .ok (.invokevirtual 48, 3) := by decide +kernel
theorem dX3_tryPlace_76 : decode cX3_tryPlace 76 = .ok (.iinc 4 1, 3) := by decide +kernel
theorem dX3_tryPlace_79 : decode cX3_tryPlace 79 = .ok (.goto (-30), 3) := by decide +kernel
theorem dX3_tryPlace_82 : decode cX3_tryPlace 82 = .ok (.return_, 1) := by decide +kernel
theorem dX3_tryPart_0 : decode cX3_tryPart 0 = .ok (.aload_n 0, 1) := by decide +kernel
theorem dX3_tryPart_1 : decode cX3_tryPart 1 = .ok (.getfield 23, 3) := by decide +kernel
theorem dX3_tryPart_4 : decode cX3_tryPart 4 = .ok (.iload_n 3, 1) := by decide +kernel
theorem dX3_tryPart_5 : decode cX3_tryPart 5 = .ok (.iload_n 2, 1) := by decide +kernel
theorem dX3_tryPart_6 : decode cX3_tryPart 6 = .ok (.iastore, 1) := by decide +kernel
theorem dX3_tryPart_7 : decode cX3_tryPart 7 = .ok (.aload_n 0, 1) := by decide +kernel
theorem dX3_tryPart_8 : decode cX3_tryPart 8 = .ok (.getfield 26, 3) := by decide +kernel
theorem dX3_tryPart_11 : decode cX3_tryPart 11 = .ok (.iload_n 2, 1) := by decide +kernel
theorem dX3_tryPart_12 : decode cX3_tryPart 12 = .ok (.aload_n 1, 1) := by decide +kernel
theorem dX3_tryPart_13 : decode cX3_tryPart 13 = .ok (.iload_n 2, 1) := by decide +kernel
theorem dX3_tryPart_14 : decode cX3_tryPart 14 = .ok (.iload_n 2, 1) := by decide +kernel
theorem dX3_tryPart_15 : decode cX3_tryPart 15 = .ok (.iload_n 3, 1) := by decide +kernel
theorem dX3_tryPart_16 : decode cX3_tryPart 16 = .ok (.aload_n 1, 1) := by decide +kernel
theorem dX3_tryPart_17 : decode cX3_tryPart 17 = .ok (.getfield 52, 3) := by decide +kernel
theorem dX3_tryPart_20 : decode cX3_tryPart 20 = .ok (.invokestatic 55, 3) := by decide +kernel
theorem dX3_tryPart_23 : decode cX3_tryPart 23 = .ok (.invokevirtual 59, 3) := by decide +kernel
theorem dX3_tryPart_26 : decode cX3_tryPart 26 = .ok (.iastore, 1) := by decide +kernel
theorem dX3_tryPart_27 : decode cX3_tryPart 27 = .ok (.iload 4, 2) := by decide +kernel
theorem dX3_tryPart_29 : decode cX3_tryPart 29 = .ok (.aload_n 0, 1) := by decide +kernel
theorem dX3_tryPart_30 : decode cX3_tryPart 30 = .ok (.aload_n 1, 1) := by decide +kernel
theorem dX3_tryPart_31 : decode cX3_tryPart 31 = .ok (.iload_n 2, 1) := by decide +kernel
theorem dX3_tryPart_32 : decode cX3_tryPart 32 = .ok (.invokevirtual 63, 3) := by decide +kernel
theorem dX3_tryPart_35 : decode cX3_tryPart 35 = .ok (.iadd, 1) := by decide +kernel
theorem dX3_tryPart_36 : decode cX3_tryPart 36 = .ok (.istore 5, 2) := by decide +kernel
theorem dX3_tryPart_38 : decode cX3_tryPart 38 = .ok (.iload 5, 2) := by decide +kernel
theorem dX3_tryPart_40 : decode cX3_tryPart 40 = .ok (.aload_n 0, 1) := by decide +kernel
theorem dX3_tryPart_41 : decode cX3_tryPart 41 = .ok (.getfield 19, 3) := by decide +kernel
theorem dX3_tryPart_44 : decode cX3_tryPart 44 = .ok (.if_icmp .ge 39, 3) := by decide +kernel
theorem dX3_tryPart_47 : decode cX3_tryPart 47 = .ok (.aload_n 0, 1) := by decide +kernel
theorem dX3_tryPart_48 : decode cX3_tryPart 48 = .ok (.dup, 1) := by decide +kernel
theorem dX3_tryPart_49 : decode cX3_tryPart 49 = .ok (.getfield 29, 3) := by decide +kernel
theorem dX3_tryPart_52 : decode cX3_tryPart 52 = .ok (.iconst 1, 1) := by decide +kernel
theorem dX3_tryPart_53 : decode cX3_tryPart 53 = .ok (.iload_n 2, 1) := by decide +kernel
theorem dX3_tryPart_54 : decode cX3_tryPart 54 = .ok (.ishl, 1) := by decide +kernel
theorem dX3_tryPart_55 : decode cX3_tryPart 55 = .ok (.ior, 1) := by decide +kernel
theorem dX3_tryPart_56 : decode cX3_tryPart 56 = .ok (.putfield 29, 3) := by decide +kernel
theorem dX3_tryPart_59 : decode cX3_tryPart 59 = .ok (.aload_n 0, 1) := by decide +kernel
theorem dX3_tryPart_60 : decode cX3_tryPart 60 = .ok (.aload_n 1, 1) := by decide +kernel
theorem dX3_tryPart_61 : decode cX3_tryPart 61 = .ok (.iload_n 3, 1) := by decide +kernel
theorem dX3_tryPart_62 : decode cX3_tryPart 62 = .ok (.iconst 1, 1) := by decide +kernel
theorem dX3_tryPart_63 : decode cX3_tryPart 63 = .ok (.iadd, 1) := by decide +kernel
theorem dX3_tryPart_64 : decode cX3_tryPart 64 = .ok (.iload 5, 2) := by decide +kernel
theorem dX3_tryPart_66 : decode cX3_tryPart 66 = .ok (.invokevirtual 35, 3) := by decide +kernel
theorem dX3_tryPart_69 : decode cX3_tryPart 69 = .ok (.aload_n 0, 1) := by decide +kernel
theorem dX3_tryPart_70 : decode cX3_tryPart 70 = .ok (.dup, 1) := by decide +kernel
theorem dX3_tryPart_71 : decode cX3_tryPart 71 = .ok (.getfield 29, 3) := by decide +kernel
theorem dX3_tryPart_74 : decode cX3_tryPart 74 = .ok (.iconst 1, 1) := by decide +kernel
theorem dX3_tryPart_75 : decode cX3_tryPart 75 = .ok (.iload_n 2, 1) := by decide +kernel
theorem dX3_tryPart_76 : decode cX3_tryPart 76 = .ok (.ishl, 1) := by decide +kernel
theorem dX3_tryPart_77 : decode cX3_tryPart 77 = .ok (.iconst (-1), 1) := by decide +kernel
theorem dX3_tryPart_78 : decode cX3_tryPart 78 = .ok (.ixor, 1) := by decide +kernel
theorem dX3_tryPart_79 : decode cX3_tryPart 79 = .ok (.iand, 1) := by decide +kernel
theorem dX3_tryPart_80 : decode cX3_tryPart 80 = .ok (.putfield 29, 3) := by decide +kernel
theorem dX3_tryPart_83 : decode cX3_tryPart 83 = .ok (.return_, 1) := by decide +kernel
theorem dX3_gapsWithPlaced_0 : decode cX3_gapsWithPlaced 0 = .ok (.iconst 0, 1) := by decide +kernel
theorem dX3_gapsWithPlaced_1 : decode cX3_gapsWithPlaced 1 = .ok (.istore_n 3, 1) := by decide +kernel
theorem dX3_gapsWithPlaced_2 : decode cX3_gapsWithPlaced 2 = .ok (.iconst 0, 1) := by decide +kernel
theorem dX3_gapsWithPlaced_3 : decode cX3_gapsWithPlaced 3 = .ok (.istore 4, 2) := by decide +kernel
theorem dX3_gapsWithPlaced_5 : decode cX3_gapsWithPlaced 5 = .ok (.iload 4, 2) := by decide +kernel
theorem dX3_gapsWithPlaced_7 : decode cX3_gapsWithPlaced 7 = .ok (.aload_n 1, 1) := by decide +kernel
theorem dX3_gapsWithPlaced_8 : decode cX3_gapsWithPlaced 8 = .ok (.getfield 67, 3) := by decide +kernel
theorem dX3_gapsWithPlaced_11 : decode cX3_gapsWithPlaced 11 = .ok (.if_icmp .ge 70, 3) := by decide +kernel
theorem dX3_gapsWithPlaced_14 : decode cX3_gapsWithPlaced 14 = .ok (.aload_n 1, 1) := by decide +kernel
theorem dX3_gapsWithPlaced_15 : decode cX3_gapsWithPlaced 15 = .ok (.getfield 70, 3) := by decide +kernel
theorem dX3_gapsWithPlaced_18 : decode cX3_gapsWithPlaced 18 = .ok (.iload 4, 2) := by decide +kernel
theorem dX3_gapsWithPlaced_20 : decode cX3_gapsWithPlaced 20 = .ok (.iaload, 1) := by decide +kernel
theorem dX3_gapsWithPlaced_21 : decode cX3_gapsWithPlaced 21 = .ok (.istore 5, 2) := by decide +kernel
theorem dX3_gapsWithPlaced_23 : decode cX3_gapsWithPlaced 23 = .ok (.aload_n 1, 1) := by decide +kernel
theorem dX3_gapsWithPlaced_24 : decode cX3_gapsWithPlaced 24 = .ok (.getfield 73, 3) := by decide +kernel
theorem dX3_gapsWithPlaced_27 : decode cX3_gapsWithPlaced 27 = .ok (.iload 4, 2) := by decide +kernel
theorem dX3_gapsWithPlaced_29 : decode cX3_gapsWithPlaced 29 = .ok (.iaload, 1) := by decide +kernel
theorem dX3_gapsWithPlaced_30 : decode cX3_gapsWithPlaced 30 = .ok (.istore 6, 2) := by decide +kernel
theorem dX3_gapsWithPlaced_32 : decode cX3_gapsWithPlaced 32 = .ok (.iload 5, 2) := by decide +kernel
theorem dX3_gapsWithPlaced_34 : decode cX3_gapsWithPlaced 34 = .ok (.iload_n 2, 1) := by decide +kernel
theorem dX3_gapsWithPlaced_35 : decode cX3_gapsWithPlaced 35 = .ok (.if_icmp .ne 12, 3) := by decide +kernel
theorem dX3_gapsWithPlaced_38 : decode cX3_gapsWithPlaced 38 = .ok (.aload_n 0, 1) := by decide +kernel
theorem dX3_gapsWithPlaced_39 : decode cX3_gapsWithPlaced 39 = .ok (.iload 6, 2) := by decide +kernel
theorem dX3_gapsWithPlaced_41 : decode cX3_gapsWithPlaced 41 = .ok (.invokevirtual 44, 3) := by decide +kernel
theorem dX3_gapsWithPlaced_44 : decode cX3_gapsWithPlaced 44 = .ok (.ifCond .ne 18, 3) := by decide +kernel
theorem dX3_gapsWithPlaced_47 : decode cX3_gapsWithPlaced 47 = .ok (.iload 6, 2) := by decide +kernel
theorem dX3_gapsWithPlaced_49 : decode cX3_gapsWithPlaced 49 = .ok (.iload_n 2, 1) := by decide +kernel
theorem dX3_gapsWithPlaced_50 : decode cX3_gapsWithPlaced 50 = .ok (.if_icmp .ne 25, 3) := by decide +kernel
theorem dX3_gapsWithPlaced_53 : decode cX3_gapsWithPlaced 53 = .ok (.aload_n 0, 1) := by decide +kernel
theorem dX3_gapsWithPlaced_54 : decode cX3_gapsWithPlaced 54 = .ok (.iload 5, 2) := by decide +kernel
theorem dX3_gapsWithPlaced_56 : decode cX3_gapsWithPlaced 56 = .ok (.invokevirtual 44, 3) := by decide +kernel
theorem dX3_gapsWithPlaced_59 : decode cX3_gapsWithPlaced 59 = .ok (.ifCond .eq 16, 3) := by decide +kernel
theorem dX3_gapsWithPlaced_62 : decode cX3_gapsWithPlaced 62 = .ok (.iload_n 3, 1) := by decide +kernel
theorem dX3_gapsWithPlaced_63 : decode cX3_gapsWithPlaced 63 = .ok (.aload_n 1, 1) := by decide +kernel
theorem dX3_gapsWithPlaced_64 : decode cX3_gapsWithPlaced 64 = .ok (.iload 4, 2) := by decide +kernel
theorem dX3_gapsWithPlaced_66 : decode cX3_gapsWithPlaced 66 = .ok (.aload_n 0, 1) := by decide +kernel
theorem dX3_gapsWithPlaced_67 : decode cX3_gapsWithPlaced 67 = .ok (.getfield 26, 3) := by decide +kernel
theorem dX3_gapsWithPlaced_70 : decode cX3_gapsWithPlaced 70 = .ok (.invokevirtual 76, 3) := by decide +kernel
theorem dX3_gapsWithPlaced_73 : decode cX3_gapsWithPlaced 73 = .ok (.iadd, 1) := by decide +kernel
theorem dX3_gapsWithPlaced_74 : decode cX3_gapsWithPlaced 74 = .ok (.istore_n 3, 1) := by decide +kernel
theorem dX3_gapsWithPlaced_75 : decode cX3_gapsWithPlaced 75 = .ok (.iinc 4 1, 3) := by decide +kernel
theorem dX3_gapsWithPlaced_78 : decode cX3_gapsWithPlaced 78 = .ok (.goto (-73), 3) := by decide +kernel
theorem dX3_gapsWithPlaced_81 : decode cX3_gapsWithPlaced 81 = .ok (.iload_n 3, 1) := by decide +kernel
theorem dX3_gapsWithPlaced_82 : decode cX3_gapsWithPlaced 82 = .ok (.ireturn, 1) := by decide +kernel
theorem dX3_isPlaced_0 : decode cX3_isPlaced 0 = .ok (.aload_n 0, 1) := by decide +kernel
theorem dX3_isPlaced_1 : decode cX3_isPlaced 1 = .ok (.getfield 29, 3) := by decide +kernel
theorem dX3_isPlaced_4 : decode cX3_isPlaced 4 = .ok (.iload_n 1, 1) := by decide +kernel
theorem dX3_isPlaced_5 : decode cX3_isPlaced 5 = .ok (.ishr, 1) := by decide +kernel
theorem dX3_isPlaced_6 : decode cX3_isPlaced 6 = .ok (.iconst 1, 1) := by decide +kernel
theorem dX3_isPlaced_7 : decode cX3_isPlaced 7 = .ok (.iand, 1) := by decide +kernel
theorem dX3_isPlaced_8 : decode cX3_isPlaced 8 = .ok (.iconst 1, 1) := by decide +kernel
theorem dX3_isPlaced_9 : decode cX3_isPlaced 9 = .ok (.if_icmp .ne 7, 3) := by decide +kernel
theorem dX3_isPlaced_12 : decode cX3_isPlaced 12 = .ok (.iconst 1, 1) := by decide +kernel
theorem dX3_isPlaced_13 : decode cX3_isPlaced 13 = .ok (.goto 4, 3) := by decide +kernel
theorem dX3_isPlaced_16 : decode cX3_isPlaced 16 = .ok (.iconst 0, 1) := by decide +kernel
theorem dX3_isPlaced_17 : decode cX3_isPlaced 17 = .ok (.ireturn, 1) := by decide +kernel
theorem dX4_init_0 : decode cX4_init 0 = .ok (.aload_n 0, 1) := by decide +kernel
theorem dX4_init_1 : decode cX4_init 1 = .ok (.invokespecial 3, 3) := by decide +kernel
theorem dX4_init_4 : decode cX4_init 4 = .ok (.aload_n 0, 1) := by decide +kernel
theorem dX4_init_5 : decode cX4_init 5 = .ok (.bipush 12, 2) := by decide +kernel
theorem dX4_init_7 : decode cX4_init 7 = .ok (.newarray .int, 2) := by decide +kernel
theorem dX4_init_9 : decode cX4_init 9 = .ok (.putfield 9, 3) := by decide +kernel
theorem dX4_init_12 : decode cX4_init 12 = .ok (.aload_n 0, 1) := by decide +kernel
theorem dX4_init_13 : decode cX4_init 13 = .ok (.bipush 12, 2) := by decide +kernel
theorem dX4_init_15 : decode cX4_init 15 = .ok (.newarray .int, 2) := by decide +kernel
theorem dX4_init_17 : decode cX4_init 17 = .ok (.putfield 15, 3) := by decide +kernel
theorem dX4_init_20 : decode cX4_init 20 = .ok (.aload_n 0, 1) := by decide +kernel
theorem dX4_init_21 : decode cX4_init 21 = .ok (.iconst 0, 1) := by decide +kernel
theorem dX4_init_22 : decode cX4_init 22 = .ok (.putfield 18, 3) := by decide +kernel
theorem dX4_init_25 : decode cX4_init 25 = .ok (.return_, 1) := by decide +kernel
theorem dX4_add_0 : decode cX4_add 0 = .ok (.aload_n 0, 1) := by decide +kernel
theorem dX4_add_1 : decode cX4_add 1 = .ok (.getfield 18, 3) := by decide +kernel
theorem dX4_add_4 : decode cX4_add 4 = .ok (.bipush 12, 2) := by decide +kernel
theorem dX4_add_6 : decode cX4_add 6 = .ok (.if_icmp .ge 33, 3) := by decide +kernel
theorem dX4_add_9 : decode cX4_add 9 = .ok (.aload_n 0, 1) := by decide +kernel
theorem dX4_add_10 : decode cX4_add 10 = .ok (.getfield 9, 3) := by decide +kernel
theorem dX4_add_13 : decode cX4_add 13 = .ok (.aload_n 0, 1) := by decide +kernel
theorem dX4_add_14 : decode cX4_add 14 = .ok (.getfield 18, 3) := by decide +kernel
theorem dX4_add_17 : decode cX4_add 17 = .ok (.iload_n 1, 1) := by decide +kernel
theorem dX4_add_18 : decode cX4_add 18 = .ok (.iastore, 1) := by decide +kernel
theorem dX4_add_19 : decode cX4_add 19 = .ok (.aload_n 0, 1) := by decide +kernel
theorem dX4_add_20 : decode cX4_add 20 = .ok (.getfield 15, 3) := by decide +kernel
theorem dX4_add_23 : decode cX4_add 23 = .ok (.aload_n 0, 1) := by decide +kernel
theorem dX4_add_24 : decode cX4_add 24 = .ok (.getfield 18, 3) := by decide +kernel
theorem dX4_add_27 : decode cX4_add 27 = .ok (.iload_n 2, 1) := by decide +kernel
theorem dX4_add_28 : decode cX4_add 28 = .ok (.iastore, 1) := by decide +kernel
theorem dX4_add_29 : decode cX4_add 29 = .ok (.aload_n 0, 1) := by decide +kernel
theorem dX4_add_30 : decode cX4_add 30 = .ok (.dup, 1) := by decide +kernel
theorem dX4_add_31 : decode cX4_add 31 = .ok (.getfield 18, 3) := by decide +kernel
theorem dX4_add_34 : decode cX4_add 34 = .ok (.iconst 1, 1) := by decide +kernel
theorem dX4_add_35 : decode cX4_add 35 = .ok (.iadd, 1) := by decide +kernel
theorem dX4_add_36 : decode cX4_add 36 = .ok (.putfield 18, 3) := by decide +kernel
theorem dX4_add_39 : decode cX4_add 39 = .ok (.return_, 1) := by decide +kernel
theorem dX4_countIn_0 : decode cX4_countIn 0 = .ok (.iconst 0, 1) := by decide +kernel
theorem dX4_countIn_1 : decode cX4_countIn 1 = .ok (.istore_n 2, 1) := by decide +kernel
theorem dX4_countIn_2 : decode cX4_countIn 2 = .ok (.iconst 0, 1) := by decide +kernel
theorem dX4_countIn_3 : decode cX4_countIn 3 = .ok (.istore_n 3, 1) := by decide +kernel
theorem dX4_countIn_4 : decode cX4_countIn 4 = .ok (.iload_n 3, 1) := by decide +kernel
theorem dX4_countIn_5 : decode cX4_countIn 5 = .ok (.aload_n 0, 1) := by decide +kernel
theorem dX4_countIn_6 : decode cX4_countIn 6 = .ok (.getfield 18, 3) := by decide +kernel
theorem dX4_countIn_9 : decode cX4_countIn 9 = .ok (.if_icmp .ge 27, 3) := by decide +kernel
theorem dX4_countIn_12 : decode cX4_countIn 12 = .ok (.iload_n 2, 1) := by decide +kernel
theorem dX4_countIn_13 : decode cX4_countIn 13 = .ok (.aload_n 0, 1) := by decide +kernel
theorem dX4_countIn_14 : decode cX4_countIn 14 = .ok (.getfield 9, 3) := by decide +kernel
theorem dX4_countIn_17 : decode cX4_countIn 17 = .ok (.iload_n 3, 1) := by decide +kernel
theorem dX4_countIn_18 : decode cX4_countIn 18 = .ok (.iaload, 1) := by decide +kernel
theorem dX4_countIn_19 : decode cX4_countIn 19 = .ok (.iload_n 1, 1) := by decide +kernel
theorem dX4_countIn_20 : decode cX4_countIn 20 = .ok (.if_icmp .ne 7, 3) := by decide +kernel
theorem dX4_countIn_23 : decode cX4_countIn 23 = .ok (.iconst 1, 1) := by decide +kernel
theorem dX4_countIn_24 : decode cX4_countIn 24 = .ok (.goto 4, 3) := by decide +kernel
theorem dX4_countIn_27 : decode cX4_countIn 27 = .ok (.iconst 0, 1) := by decide +kernel
theorem dX4_countIn_28 : decode cX4_countIn 28 = .ok (.iadd, 1) := by decide +kernel
theorem dX4_countIn_29 : decode cX4_countIn 29 = .ok (.istore_n 2, 1) := by decide +kernel
theorem dX4_countIn_30 : decode cX4_countIn 30 = .ok (.iinc 3 1, 3) := by decide +kernel
theorem dX4_countIn_33 : decode cX4_countIn 33 = .ok (.goto (-29), 3) := by decide +kernel
theorem dX4_countIn_36 : decode cX4_countIn 36 = .ok (.iload_n 2, 1) := by decide +kernel
theorem dX4_countIn_37 : decode cX4_countIn 37 = .ok (.ireturn, 1) := by decide +kernel
theorem dX5_init_0 : decode cX5_init 0 = .ok (.aload_n 0, 1) := by decide +kernel
theorem dX5_init_1 : decode cX5_init 1 = .ok (.invokespecial 3, 3) := by decide +kernel
theorem dX5_init_4 : decode cX5_init 4 = .ok (.aload_n 0, 1) := by decide +kernel
theorem dX5_init_5 : decode cX5_init 5 = .ok (.bipush 6, 2) := by decide +kernel
theorem dX5_init_7 : decode cX5_init 7 = .ok (.newarray .int, 2) := by decide +kernel
theorem dX5_init_9 : decode cX5_init 9 = .ok (.putfield 9, 3) := by decide +kernel
theorem dX5_init_12 : decode cX5_init 12 = .ok (.aload_n 0, 1) := by decide +kernel
theorem dX5_init_13 : decode cX5_init 13 = .ok (.bipush 7, 2) := by decide +kernel
theorem dX5_init_15 : decode cX5_init 15 = .ok (.newarray .int, 2) := by decide +kernel
theorem dX5_init_17 : decode cX5_init 17 = .ok (.putfield 15, 3) := by decide +kernel
theorem dX5_init_20 : decode cX5_init 20 = .ok (.aload_n 0, 1) := by decide +kernel
theorem dX5_init_21 : decode cX5_init 21 = .ok (.bipush 7, 2) := by decide +kernel
theorem dX5_init_23 : decode cX5_init 23 = .ok (.newarray .int, 2) := by decide +kernel
theorem dX5_init_25 : decode cX5_init 25 = .ok (.putfield 18, 3) := by decide +kernel
theorem dX5_init_28 : decode cX5_init 28 = .ok (.aload_n 0, 1) := by decide +kernel
theorem dX5_init_29 : decode cX5_init 29 = .ok (.bipush 7, 2) := by decide +kernel
theorem dX5_init_31 : decode cX5_init 31 = .ok (.newarray .int, 2) := by decide +kernel
theorem dX5_init_33 : decode cX5_init 33 = .ok (.putfield 21, 3) := by decide +kernel
theorem dX5_init_36 : decode cX5_init 36 = .ok (.aload_n 0, 1) := by decide +kernel
theorem dX5_init_37 : decode cX5_init 37 = .ok (.bipush 10, 2) := by decide +kernel
theorem dX5_init_39 : decode cX5_init 39 = .ok (.newarray .int, 2) := by decide +kernel
theorem dX5_init_41 : decode cX5_init 41 = .ok (.putfield 24, 3) := by decide +kernel
theorem dX5_init_44 : decode cX5_init 44 = .ok (.aload_n 0, 1) := by decide +kernel
theorem dX5_init_45 : decode cX5_init 45 = .ok (.bipush 10, 2) := by decide +kernel
theorem dX5_init_47 : decode cX5_init 47 = .ok (.newarray .int, 2) := by decide +kernel
theorem dX5_init_49 : decode cX5_init 49 = .ok (.putfield 27, 3) := by decide +kernel
theorem dX5_init_52 : decode cX5_init 52 = .ok (.return_, 1) := by decide +kernel
theorem dX5_clear_0 : decode cX5_clear 0 = .ok (.aload_n 0, 1) := by decide +kernel
theorem dX5_clear_1 : decode cX5_clear 1 = .ok (.iconst 0, 1) := by decide +kernel
theorem dX5_clear_2 : decode cX5_clear 2 = .ok (.putfield 30, 3) := by decide +kernel
theorem dX5_clear_5 : decode cX5_clear 5 = .ok (.aload_n 0, 1) := by decide +kernel
theorem dX5_clear_6 : decode cX5_clear 6 = .ok (.iconst 0, 1) := by decide +kernel
theorem dX5_clear_7 : decode cX5_clear 7 = .ok (.putfield 34, 3) := by decide +kernel
theorem dX5_clear_10 : decode cX5_clear 10 = .ok (.aload_n 0, 1) := by decide +kernel
theorem dX5_clear_11 : decode cX5_clear 11 = .ok (.iconst 0, 1) := by decide +kernel
theorem dX5_clear_12 : decode cX5_clear 12 = .ok (.putfield 37, 3) := by decide +kernel
theorem dX5_clear_15 : decode cX5_clear 15 = .ok (.aload_n 0, 1) := by decide +kernel
theorem dX5_clear_16 : decode cX5_clear 16 = .ok (.iconst 1, 1) := by decide +kernel
theorem dX5_clear_17 : decode cX5_clear 17 = .ok (.putfield 40, 3) := by decide +kernel
theorem dX5_clear_20 : decode cX5_clear 20 = .ok (.aload_n 0, 1) := by decide +kernel
theorem dX5_clear_21 : decode cX5_clear 21 = .ok (.iconst 0, 1) := by decide +kernel
theorem dX5_clear_22 : decode cX5_clear 22 = .ok (.putfield 43, 3) := by decide +kernel
theorem dX5_clear_25 : decode cX5_clear 25 = .ok (.aload_n 0, 1) := by decide +kernel
theorem dX5_clear_26 : decode cX5_clear 26 = .ok (.sipush 300, 3) := by decide +kernel
theorem dX5_clear_29 : decode cX5_clear 29 = .ok (.putfield 46, 3) := by decide +kernel
theorem dX5_clear_32 : decode cX5_clear 32 = .ok (.return_, 1) := by decide +kernel
theorem dX5_hasTailor_0 : decode cX5_hasTailor 0 = .ok (.iload_n 1, 1) := by decide +kernel
theorem dX5_hasTailor_1 : decode cX5_hasTailor 1 = .ok (.ifCond .lt 15, 3) := by decide +kernel
theorem dX5_hasTailor_4 : decode cX5_hasTailor 4 = .ok (.iload_n 1, 1) := by decide +kernel
theorem dX5_hasTailor_5 : decode cX5_hasTailor 5 = .ok (.aload_n 0, 1) := by decide +kernel
theorem dX5_hasTailor_6 : decode cX5_hasTailor 6 = .ok (.getfield 30, 3) := by decide +kernel
theorem dX5_hasTailor_9 : decode cX5_hasTailor 9 = .ok (.if_icmp .ge 7, 3) := by decide +kernel
theorem dX5_hasTailor_12 : decode cX5_hasTailor 12 = .ok (.iconst 1, 1) := by decide +kernel
theorem dX5_hasTailor_13 : decode cX5_hasTailor 13 = .ok (.goto 4, 3) := by decide +kernel
theorem dX5_hasTailor_16 : decode cX5_hasTailor 16 = .ok (.iconst 0, 1) := by decide +kernel
theorem dX5_hasTailor_17 : decode cX5_hasTailor 17 = .ok (.ireturn, 1) := by decide +kernel
theorem dX5_hasPart_0 : decode cX5_hasPart 0 = .ok (.iload_n 1, 1) := by decide +kernel
theorem dX5_hasPart_1 : decode cX5_hasPart 1 = .ok (.ifCond .lt 15, 3) := by decide +kernel
theorem dX5_hasPart_4 : decode cX5_hasPart 4 = .ok (.iload_n 1, 1) := by decide +kernel
theorem dX5_hasPart_5 : decode cX5_hasPart 5 = .ok (.aload_n 0, 1) := by decide +kernel
theorem dX5_hasPart_6 : decode cX5_hasPart 6 = .ok (.getfield 34, 3) := by decide +kernel
theorem dX5_hasPart_9 : decode cX5_hasPart 9 = .ok (.if_icmp .ge 7, 3) := by decide +kernel
theorem dX5_hasPart_12 : decode cX5_hasPart 12 = .ok (.iconst 1, 1) := by decide +kernel
theorem dX5_hasPart_13 : decode cX5_hasPart 13 = .ok (.goto 4, 3) := by decide +kernel
theorem dX5_hasPart_16 : decode cX5_hasPart 16 = .ok (.iconst 0, 1) := by decide +kernel
theorem dX5_hasPart_17 : decode cX5_hasPart 17 = .ok (.ireturn, 1) := by decide +kernel
theorem dX5_hasSeam_0 : decode cX5_hasSeam 0 = .ok (.iload_n 1, 1) := by decide +kernel
theorem dX5_hasSeam_1 : decode cX5_hasSeam 1 = .ok (.ifCond .lt 15, 3) := by decide +kernel
theorem dX5_hasSeam_4 : decode cX5_hasSeam 4 = .ok (.iload_n 1, 1) := by decide +kernel
theorem dX5_hasSeam_5 : decode cX5_hasSeam 5 = .ok (.aload_n 0, 1) := by decide +kernel
theorem dX5_hasSeam_6 : decode cX5_hasSeam 6 = .ok (.getfield 37, 3) := by decide +kernel
theorem dX5_hasSeam_9 : decode cX5_hasSeam 9 = .ok (.if_icmp .ge 7, 3) := by decide +kernel
theorem dX5_hasSeam_12 : decode cX5_hasSeam 12 = .ok (.iconst 1, 1) := by decide +kernel
theorem dX5_hasSeam_13 : decode cX5_hasSeam 13 = .ok (.goto 4, 3) := by decide +kernel
theorem dX5_hasSeam_16 : decode cX5_hasSeam 16 = .ok (.iconst 0, 1) := by decide +kernel
theorem dX5_hasSeam_17 : decode cX5_hasSeam 17 = .ok (.ireturn, 1) := by decide +kernel
theorem dX5_takes_0 : decode cX5_takes 0 = .ok (.iload_n 1, 1) := by decide +kernel
theorem dX5_takes_1 : decode cX5_takes 1 = .ok (.lookupswitch 116 #[(99, 108), (103, 92), (112, 67), (115, 81), (116, 59), (122, 100)], 59) := by decide +kernel
theorem dX5_takes_60 : decode cX5_takes 60 = .ok (.aload_n 0, 1) := by decide +kernel
theorem dX5_takes_61 : decode cX5_takes 61 = .ok (.aload_n 2, 1) := by decide +kernel
theorem dX5_takes_62 : decode cX5_takes 62 = .ok (.iconst 0, 1) := by decide +kernel
theorem dX5_takes_63 : decode cX5_takes 63 = .ok (.iaload, 1) := by decide +kernel
theorem dX5_takes_64 : decode cX5_takes 64 = .ok (.invokevirtual 49, 3) := by decide +kernel
theorem dX5_takes_67 : decode cX5_takes 67 = .ok (.ireturn, 1) := by decide +kernel
theorem dX5_takes_68 : decode cX5_takes 68 = .ok (.aload_n 0, 1) := by decide +kernel
theorem dX5_takes_69 : decode cX5_takes 69 = .ok (.aload_n 2, 1) := by decide +kernel
theorem dX5_takes_70 : decode cX5_takes 70 = .ok (.iconst 0, 1) := by decide +kernel
theorem dX5_takes_71 : decode cX5_takes 71 = .ok (.iaload, 1) := by decide +kernel
theorem dX5_takes_72 : decode cX5_takes 72 = .ok (.aload_n 2, 1) := by decide +kernel
theorem dX5_takes_73 : decode cX5_takes 73 = .ok (.iconst 1, 1) := by decide +kernel
theorem dX5_takes_74 : decode cX5_takes 74 = .ok (.iaload, 1) := by decide +kernel
theorem dX5_takes_75 : decode cX5_takes 75 = .ok (.aload_n 2, 1) := by decide +kernel
theorem dX5_takes_76 : decode cX5_takes 76 = .ok (.iconst 2, 1) := by decide +kernel
theorem dX5_takes_77 : decode cX5_takes 77 = .ok (.iaload, 1) := by decide +kernel
theorem dX5_takes_78 : decode cX5_takes 78 = .ok (.invokevirtual 53, 3) := by decide +kernel
theorem dX5_takes_81 : decode cX5_takes 81 = .ok (.ireturn, 1) := by decide +kernel
theorem dX5_takes_82 : decode cX5_takes 82 = .ok (.aload_n 0, 1) := by decide +kernel
theorem dX5_takes_83 : decode cX5_takes 83 = .ok (.aload_n 2, 1) := by decide +kernel
theorem dX5_takes_84 : decode cX5_takes 84 = .ok (.iconst 0, 1) := by decide +kernel
theorem dX5_takes_85 : decode cX5_takes 85 = .ok (.iaload, 1) := by decide +kernel
theorem dX5_takes_86 : decode cX5_takes 86 = .ok (.aload_n 2, 1) := by decide +kernel
theorem dX5_takes_87 : decode cX5_takes 87 = .ok (.iconst 1, 1) := by decide +kernel
theorem dX5_takes_88 : decode cX5_takes 88 = .ok (.iaload, 1) := by decide +kernel
theorem dX5_takes_89 : decode cX5_takes 89 = .ok (.invokevirtual 57, 3) := by decide +kernel
theorem dX5_takes_92 : decode cX5_takes 92 = .ok (.ireturn, 1) := by decide +kernel
theorem dX5_takes_93 : decode cX5_takes 93 = .ok (.aload_n 0, 1) := by decide +kernel
theorem dX5_takes_94 : decode cX5_takes 94 = .ok (.aload_n 2, 1) := by decide +kernel
theorem dX5_takes_95 : decode cX5_takes 95 = .ok (.iconst 0, 1) := by decide +kernel
theorem dX5_takes_96 : decode cX5_takes 96 = .ok (.iaload, 1) := by decide +kernel
theorem dX5_takes_97 : decode cX5_takes 97 = .ok (.invokevirtual 61, 3) := by decide +kernel
theorem dX5_takes_100 : decode cX5_takes 100 = .ok (.ireturn, 1) := by decide +kernel
theorem dX5_takes_101 : decode cX5_takes 101 = .ok (.aload_n 0, 1) := by decide +kernel
theorem dX5_takes_102 : decode cX5_takes 102 = .ok (.aload_n 2, 1) := by decide +kernel
theorem dX5_takes_103 : decode cX5_takes 103 = .ok (.iconst 0, 1) := by decide +kernel
theorem dX5_takes_104 : decode cX5_takes 104 = .ok (.iaload, 1) := by decide +kernel
theorem dX5_takes_105 : decode cX5_takes 105 = .ok (.invokevirtual 64, 3) := by decide +kernel
theorem dX5_takes_108 : decode cX5_takes 108 = .ok (.ireturn, 1) := by decide +kernel
theorem dX5_takes_109 : decode cX5_takes 109 = .ok (.aload_n 0, 1) := by decide +kernel
theorem dX5_takes_110 : decode cX5_takes 110 = .ok (.aload_n 2, 1) := by decide +kernel
theorem dX5_takes_111 : decode cX5_takes 111 = .ok (.iconst 0, 1) := by decide +kernel
theorem dX5_takes_112 : decode cX5_takes 112 = .ok (.iaload, 1) := by decide +kernel
theorem dX5_takes_113 : decode cX5_takes 113 = .ok (.invokevirtual 67, 3) := by decide +kernel
theorem dX5_takes_116 : decode cX5_takes 116 = .ok (.ireturn, 1) := by decide +kernel
theorem dX5_takes_117 : decode cX5_takes 117 = .ok (.iconst 0, 1) := by decide +kernel
theorem dX5_takes_118 : decode cX5_takes 118 = .ok (.ireturn, 1) := by decide +kernel
theorem dX5_takesTailor_0 : decode cX5_takesTailor 0 = .ok (.aload_n 0, 1) := by decide +kernel
theorem dX5_takesTailor_1 : decode cX5_takesTailor 1 = .ok (.getfield 30, 3) := by decide +kernel
theorem dX5_takesTailor_4 : decode cX5_takesTailor 4 = .ok (.bipush 6, 2) := by decide +kernel
theorem dX5_takesTailor_6 : decode cX5_takesTailor 6 = .ok (.if_icmp .ge 15, 3) := by decide +kernel
theorem dX5_takesTailor_9 : decode cX5_takesTailor 9 = .ok (.iload_n 1, 1) := by decide +kernel
theorem dX5_takesTailor_10 : decode cX5_takesTailor 10 = .ok (.bipush 80, 2) := by decide +kernel
theorem dX5_takesTailor_12 : decode cX5_takesTailor 12 = .ok (.if_icmp .lt 9, 3) := by decide +kernel
theorem dX5_takesTailor_15 : decode cX5_takesTailor 15 = .ok (.iload_n 1, 1) := by decide +kernel
theorem dX5_takesTailor_16 : decode cX5_takesTailor 16 = .ok (.bipush 120, 2) := by decide +kernel
theorem dX5_takesTailor_18 : decode cX5_takesTailor 18 = .ok (.if_icmp .le 5, 3) := by decide +kernel
theorem dX5_takesTailor_21 : decode cX5_takesTailor 21 = .ok (.iconst 0, 1) := by decide +kernel
theorem dX5_takesTailor_22 : decode cX5_takesTailor 22 = .ok (.ireturn, 1) := by decide +kernel
theorem dX5_takesTailor_23 : decode cX5_takesTailor 23 = .ok (.aload_n 0, 1) := by decide +kernel
theorem dX5_takesTailor_24 : decode cX5_takesTailor 24 = .ok (.getfield 9, 3) := by decide +kernel
theorem dX5_takesTailor_27 : decode cX5_takesTailor 27 = .ok (.aload_n 0, 1) := by decide +kernel
theorem dX5_takesTailor_28 : decode cX5_takesTailor 28 = .ok (.getfield 30, 3) := by decide +kernel
theorem dX5_takesTailor_31 : decode cX5_takesTailor 31 = .ok (.iload_n 1, 1) := by decide +kernel
theorem dX5_takesTailor_32 : decode cX5_takesTailor 32 = .ok (.iastore, 1) := by decide +kernel
theorem dX5_takesTailor_33 : decode cX5_takesTailor 33 = .ok (.aload_n 0, 1) := by decide +kernel
theorem dX5_takesTailor_34 : decode cX5_takesTailor 34 = .ok (.dup, 1) := by decide +kernel
theorem dX5_takesTailor_35 : decode cX5_takesTailor 35 = .ok (.getfield 30, 3) := by decide +kernel
theorem dX5_takesTailor_38 : decode cX5_takesTailor 38 = .ok (.iconst 1, 1) := by decide +kernel
theorem dX5_takesTailor_39 : decode cX5_takesTailor 39 = .ok (.iadd, 1) := by decide +kernel
theorem dX5_takesTailor_40 : decode cX5_takesTailor 40 = .ok (.putfield 30, 3) := by decide +kernel
theorem dX5_takesTailor_43 : decode cX5_takesTailor 43 = .ok (.iconst 1, 1) := by decide +kernel
theorem dX5_takesTailor_44 : decode cX5_takesTailor 44 = .ok (.ireturn, 1) := by decide +kernel
theorem dX5_takesPart_0 : decode cX5_takesPart 0 = .ok (.aload_n 0, 1) := by decide +kernel
theorem dX5_takesPart_1 : decode cX5_takesPart 1 = .ok (.getfield 34, 3) := by decide +kernel
theorem dX5_takesPart_4 : decode cX5_takesPart 4 = .ok (.bipush 7, 2) := by decide +kernel
theorem dX5_takesPart_6 : decode cX5_takesPart 6 = .ok (.if_icmp .ge 30, 3) := by decide +kernel
theorem dX5_takesPart_9 : decode cX5_takesPart 9 = .ok (.aload_n 0, 1) := by decide +kernel
theorem dX5_takesPart_10 : decode cX5_takesPart 10 = .ok (.iload_n 1, 1) := by decide +kernel
theorem dX5_takesPart_11 : decode cX5_takesPart 11 = .ok (.invokevirtual 70, 3) := by decide +kernel
theorem dX5_takesPart_14 : decode cX5_takesPart 14 = .ok (.ifCond .eq 22, 3) := by decide +kernel
theorem dX5_takesPart_17 : decode cX5_takesPart 17 = .ok (.iload_n 2, 1) := by decide +kernel
theorem dX5_takesPart_18 : decode cX5_takesPart 18 = .ok (.bipush 10, 2) := by decide +kernel
theorem dX5_takesPart_20 : decode cX5_takesPart 20 = .ok (.if_icmp .lt 16, 3) := by decide +kernel
theorem dX5_takesPart_23 : decode cX5_takesPart 23 = .ok (.iload_n 2, 1) := by decide +kernel
theorem dX5_takesPart_24 : decode cX5_takesPart 24 = .ok (.sipush 199, 3) := by decide +kernel
theorem dX5_takesPart_27 : decode cX5_takesPart 27 = .ok (.if_icmp .gt 9, 3) := by decide +kernel
theorem dX5_takesPart_30 : decode cX5_takesPart 30 = .ok (.iload_n 3, 1) := by decide +kernel
theorem dX5_takesPart_31 : decode cX5_takesPart 31 = .ok (.bipush 99, 2) := by decide +kernel
theorem dX5_takesPart_33 : decode cX5_takesPart 33 = .ok (.if_icmp .le 5, 3) := by decide +kernel
theorem dX5_takesPart_36 : decode cX5_takesPart 36 = .ok (.iconst 0, 1) := by decide +kernel
theorem dX5_takesPart_37 : decode cX5_takesPart 37 = .ok (.ireturn, 1) := by decide +kernel
theorem dX5_takesPart_38 : decode cX5_takesPart 38 = .ok (.aload_n 0, 1) := by decide +kernel
theorem dX5_takesPart_39 : decode cX5_takesPart 39 = .ok (.getfield 15, 3) := by decide +kernel
theorem dX5_takesPart_42 : decode cX5_takesPart 42 = .ok (.aload_n 0, 1) := by decide +kernel
theorem dX5_takesPart_43 : decode cX5_takesPart 43 = .ok (.getfield 34, 3) := by decide +kernel
theorem dX5_takesPart_46 : decode cX5_takesPart 46 = .ok (.iload_n 1, 1) := by decide +kernel
theorem dX5_takesPart_47 : decode cX5_takesPart 47 = .ok (.iastore, 1) := by decide +kernel
theorem dX5_takesPart_48 : decode cX5_takesPart 48 = .ok (.aload_n 0, 1) := by decide +kernel
theorem dX5_takesPart_49 : decode cX5_takesPart 49 = .ok (.getfield 18, 3) := by decide +kernel
theorem dX5_takesPart_52 : decode cX5_takesPart 52 = .ok (.aload_n 0, 1) := by decide +kernel
theorem dX5_takesPart_53 : decode cX5_takesPart 53 = .ok (.getfield 34, 3) := by decide +kernel
theorem dX5_takesPart_56 : decode cX5_takesPart 56 = .ok (.iload_n 2, 1) := by decide +kernel
theorem dX5_takesPart_57 : decode cX5_takesPart 57 = .ok (.iastore, 1) := by decide +kernel
theorem dX5_takesPart_58 : decode cX5_takesPart 58 = .ok (.aload_n 0, 1) := by decide +kernel
theorem dX5_takesPart_59 : decode cX5_takesPart 59 = .ok (.getfield 21, 3) := by decide +kernel
theorem dX5_takesPart_62 : decode cX5_takesPart 62 = .ok (.aload_n 0, 1) := by decide +kernel
theorem dX5_takesPart_63 : decode cX5_takesPart 63 = .ok (.getfield 34, 3) := by decide +kernel
theorem dX5_takesPart_66 : decode cX5_takesPart 66 = .ok (.iload_n 3, 1) := by decide +kernel
theorem dX5_takesPart_67 : decode cX5_takesPart 67 = .ok (.iastore, 1) := by decide +kernel
theorem dX5_takesPart_68 : decode cX5_takesPart 68 = .ok (.aload_n 0, 1) := by decide +kernel
theorem dX5_takesPart_69 : decode cX5_takesPart 69 = .ok (.dup, 1) := by decide +kernel
theorem dX5_takesPart_70 : decode cX5_takesPart 70 = .ok (.getfield 34, 3) := by decide +kernel
theorem dX5_takesPart_73 : decode cX5_takesPart 73 = .ok (.iconst 1, 1) := by decide +kernel
theorem dX5_takesPart_74 : decode cX5_takesPart 74 = .ok (.iadd, 1) := by decide +kernel
theorem dX5_takesPart_75 : decode cX5_takesPart 75 = .ok (.putfield 34, 3) := by decide +kernel
theorem dX5_takesPart_78 : decode cX5_takesPart 78 = .ok (.iconst 1, 1) := by decide +kernel
theorem dX5_takesPart_79 : decode cX5_takesPart 79 = .ok (.ireturn, 1) := by decide +kernel
theorem dX5_takesSeam_0 : decode cX5_takesSeam 0 = .ok (.aload_n 0, 1) := by decide +kernel
theorem dX5_takesSeam_1 : decode cX5_takesSeam 1 = .ok (.getfield 37, 3) := by decide +kernel
theorem dX5_takesSeam_4 : decode cX5_takesSeam 4 = .ok (.bipush 10, 2) := by decide +kernel
theorem dX5_takesSeam_6 : decode cX5_takesSeam 6 = .ok (.if_icmp .ge 24, 3) := by decide +kernel
theorem dX5_takesSeam_9 : decode cX5_takesSeam 9 = .ok (.aload_n 0, 1) := by decide +kernel
theorem dX5_takesSeam_10 : decode cX5_takesSeam 10 = .ok (.iload_n 1, 1) := by decide +kernel
theorem dX5_takesSeam_11 : decode cX5_takesSeam 11 = .ok (.invokevirtual 73, 3) := by decide +kernel
theorem dX5_takesSeam_14 : decode cX5_takesSeam 14 = .ok (.ifCond .eq 16, 3) := by decide +kernel
theorem dX5_takesSeam_17 : decode cX5_takesSeam 17 = .ok (.aload_n 0, 1) := by decide +kernel
theorem dX5_takesSeam_18 : decode cX5_takesSeam 18 = .ok (.iload_n 2, 1) := by decide +kernel
theorem dX5_takesSeam_19 : decode cX5_takesSeam 19 = .ok (.invokevirtual 73, 3) := by decide +kernel
theorem dX5_takesSeam_22 : decode cX5_takesSeam 22 = .ok (.ifCond .eq 8, 3) := by decide +kernel
theorem dX5_takesSeam_25 : decode cX5_takesSeam 25 = .ok (.iload_n 1, 1) := by decide +kernel
theorem dX5_takesSeam_26 : decode cX5_takesSeam 26 = .ok (.iload_n 2, 1) := by decide +kernel
theorem dX5_takesSeam_27 : decode cX5_takesSeam 27 = .ok (.if_icmp .ne 5, 3) := by decide +kernel
theorem dX5_takesSeam_30 : decode cX5_takesSeam 30 = .ok (.iconst 0, 1) := by decide +kernel
theorem dX5_takesSeam_31 : decode cX5_takesSeam 31 = .ok (.ireturn, 1) := by decide +kernel
theorem dX5_takesSeam_32 : decode cX5_takesSeam 32 = .ok (.aload_n 0, 1) := by decide +kernel
theorem dX5_takesSeam_33 : decode cX5_takesSeam 33 = .ok (.getfield 24, 3) := by decide +kernel
theorem dX5_takesSeam_36 : decode cX5_takesSeam 36 = .ok (.aload_n 0, 1) := by decide +kernel
theorem dX5_takesSeam_37 : decode cX5_takesSeam 37 = .ok (.getfield 37, 3) := by decide +kernel
theorem dX5_takesSeam_40 : decode cX5_takesSeam 40 = .ok (.iload_n 1, 1) := by decide +kernel
theorem dX5_takesSeam_41 : decode cX5_takesSeam 41 = .ok (.iastore, 1) := by decide +kernel
theorem dX5_takesSeam_42 : decode cX5_takesSeam 42 = .ok (.aload_n 0, 1) := by decide +kernel
theorem dX5_takesSeam_43 : decode cX5_takesSeam 43 = .ok (.getfield 27, 3) := by decide +kernel
theorem dX5_takesSeam_46 : decode cX5_takesSeam 46 = .ok (.aload_n 0, 1) := by decide +kernel
theorem dX5_takesSeam_47 : decode cX5_takesSeam 47 = .ok (.getfield 37, 3) := by decide +kernel
theorem dX5_takesSeam_50 : decode cX5_takesSeam 50 = .ok (.iload_n 2, 1) := by decide +kernel
theorem dX5_takesSeam_51 : decode cX5_takesSeam 51 = .ok (.iastore, 1) := by decide +kernel
theorem dX5_takesSeam_52 : decode cX5_takesSeam 52 = .ok (.aload_n 0, 1) := by decide +kernel
theorem dX5_takesSeam_53 : decode cX5_takesSeam 53 = .ok (.dup, 1) := by decide +kernel
theorem dX5_takesSeam_54 : decode cX5_takesSeam 54 = .ok (.getfield 37, 3) := by decide +kernel
theorem dX5_takesSeam_57 : decode cX5_takesSeam 57 = .ok (.iconst 1, 1) := by decide +kernel
theorem dX5_takesSeam_58 : decode cX5_takesSeam 58 = .ok (.iadd, 1) := by decide +kernel
theorem dX5_takesSeam_59 : decode cX5_takesSeam 59 = .ok (.putfield 37, 3) := by decide +kernel
theorem dX5_takesSeam_62 : decode cX5_takesSeam 62 = .ok (.iconst 1, 1) := by decide +kernel
theorem dX5_takesSeam_63 : decode cX5_takesSeam 63 = .ok (.ireturn, 1) := by decide +kernel
theorem dX5_takesGap_0 : decode cX5_takesGap 0 = .ok (.iload_n 1, 1) := by decide +kernel
theorem dX5_takesGap_1 : decode cX5_takesGap 1 = .ok (.bipush 20, 2) := by decide +kernel
theorem dX5_takesGap_3 : decode cX5_takesGap 3 = .ok (.if_icmp .le 5, 3) := by decide +kernel
theorem dX5_takesGap_6 : decode cX5_takesGap 6 = .ok (.iconst 0, 1) := by decide +kernel
theorem dX5_takesGap_7 : decode cX5_takesGap 7 = .ok (.ireturn, 1) := by decide +kernel
theorem dX5_takesGap_8 : decode cX5_takesGap 8 = .ok (.aload_n 0, 1) := by decide +kernel
theorem dX5_takesGap_9 : decode cX5_takesGap 9 = .ok (.iload_n 1, 1) := by decide +kernel
theorem dX5_takesGap_10 : decode cX5_takesGap 10 = .ok (.putfield 40, 3) := by decide +kernel
theorem dX5_takesGap_13 : decode cX5_takesGap 13 = .ok (.iconst 1, 1) := by decide +kernel
theorem dX5_takesGap_14 : decode cX5_takesGap 14 = .ok (.ireturn, 1) := by decide +kernel
theorem dX5_takesBoy_0 : decode cX5_takesBoy 0 = .ok (.iload_n 1, 1) := by decide +kernel
theorem dX5_takesBoy_1 : decode cX5_takesBoy 1 = .ok (.sipush 1000, 3) := by decide +kernel
theorem dX5_takesBoy_4 : decode cX5_takesBoy 4 = .ok (.if_icmp .lt 5, 3) := by decide +kernel
theorem dX5_takesBoy_7 : decode cX5_takesBoy 7 = .ok (.iconst 0, 1) := by decide +kernel
theorem dX5_takesBoy_8 : decode cX5_takesBoy 8 = .ok (.ireturn, 1) := by decide +kernel
theorem dX5_takesBoy_9 : decode cX5_takesBoy 9 = .ok (.aload_n 0, 1) := by decide +kernel
theorem dX5_takesBoy_10 : decode cX5_takesBoy 10 = .ok (.iload_n 1, 1) := by decide +kernel
theorem dX5_takesBoy_11 : decode cX5_takesBoy 11 = .ok (.putfield 43, 3) := by decide +kernel
theorem dX5_takesBoy_14 : decode cX5_takesBoy 14 = .ok (.iconst 1, 1) := by decide +kernel
theorem dX5_takesBoy_15 : decode cX5_takesBoy 15 = .ok (.ireturn, 1) := by decide +kernel
theorem dX5_takesBolt_0 : decode cX5_takesBolt 0 = .ok (.iload_n 1, 1) := by decide +kernel
theorem dX5_takesBolt_1 : decode cX5_takesBolt 1 = .ok (.iconst 1, 1) := by decide +kernel
theorem dX5_takesBolt_2 : decode cX5_takesBolt 2 = .ok (.if_icmp .ge 5, 3) := by decide +kernel
theorem dX5_takesBolt_5 : decode cX5_takesBolt 5 = .ok (.iconst 0, 1) := by decide +kernel
theorem dX5_takesBolt_6 : decode cX5_takesBolt 6 = .ok (.ireturn, 1) := by decide +kernel
theorem dX5_takesBolt_7 : decode cX5_takesBolt 7 = .ok (.aload_n 0, 1) := by decide +kernel
theorem dX5_takesBolt_8 : decode cX5_takesBolt 8 = .ok (.iload_n 1, 1) := by decide +kernel
theorem dX5_takesBolt_9 : decode cX5_takesBolt 9 = .ok (.putfield 46, 3) := by decide +kernel
theorem dX5_takesBolt_12 : decode cX5_takesBolt 12 = .ok (.iconst 1, 1) := by decide +kernel
theorem dX5_takesBolt_13 : decode cX5_takesBolt 13 = .ok (.ireturn, 1) := by decide +kernel
theorem dX5_slip_0 : decode cX5_slip 0 = .ok (.ldc2_w 76, 3) := by decide +kernel
theorem dX5_slip_3 : decode cX5_slip 3 = .ok (.iload_n 2, 1) := by decide +kernel
theorem dX5_slip_4 : decode cX5_slip 4 = .ok (.i2l, 1) := by decide +kernel
theorem dX5_slip_5 : decode cX5_slip 5 = .ok (.lmul, 1) := by decide +kernel
theorem dX5_slip_6 : decode cX5_slip 6 = .ok (.ldc2_w 78, 3) := by decide +kernel
theorem dX5_slip_9 : decode cX5_slip 9 = .ok (.iload_n 0, 1) := by decide +kernel
theorem dX5_slip_10 : decode cX5_slip 10 = .ok (.i2l, 1) := by decide +kernel
theorem dX5_slip_11 : decode cX5_slip 11 = .ok (.lmul, 1) := by decide +kernel
theorem dX5_slip_12 : decode cX5_slip 12 = .ok (.ladd, 1) := by decide +kernel
theorem dX5_slip_13 : decode cX5_slip 13 = .ok (.ldc2_w 80, 3) := by decide +kernel
theorem dX5_slip_16 : decode cX5_slip 16 = .ok (.iload_n 1, 1) := by decide +kernel
theorem dX5_slip_17 : decode cX5_slip 17 = .ok (.i2l, 1) := by decide +kernel
theorem dX5_slip_18 : decode cX5_slip 18 = .ok (.lmul, 1) := by decide +kernel
theorem dX5_slip_19 : decode cX5_slip 19 = .ok (.ladd, 1) := by decide +kernel
theorem dX5_slip_20 : decode cX5_slip 20 = .ok (.lconst 1, 1) := by decide +kernel
theorem dX5_slip_21 : decode cX5_slip 21 = .ok (.ladd, 1) := by decide +kernel
theorem dX5_slip_22 : decode cX5_slip 22 = .ok (.lstore_n 3, 1) := by decide +kernel
theorem dX5_slip_23 : decode cX5_slip 23 = .ok (.iconst 0, 1) := by decide +kernel
theorem dX5_slip_24 : decode cX5_slip 24 = .ok (.iload_n 1, 1) := by decide +kernel
theorem dX5_slip_25 : decode cX5_slip 25 = .ok (.iconst 5, 1) := by decide +kernel
theorem dX5_slip_26 : decode cX5_slip 26 = .ok (.invokestatic 82, 3) := by decide +kernel
theorem dX5_slip_29 : decode cX5_slip 29 = .ok (.invokestatic 88, 3) := by decide +kernel
theorem dX5_slip_32 : decode cX5_slip 32 = .ok (.istore 5, 2) := by decide +kernel
theorem dX5_slip_34 : decode cX5_slip 34 = .ok (.lload_n 3, 1) := by decide +kernel
theorem dX5_slip_35 : decode cX5_slip 35 = .ok (.lload_n 3, 1) := by decide +kernel
theorem dX5_slip_36 : decode cX5_slip 36 = .ok (.lmul, 1) := by decide +kernel
theorem dX5_slip_37 : decode cX5_slip 37 = .ok (.ldc2_w 91, 3) := by decide +kernel
theorem dX5_slip_40 : decode cX5_slip 40 = .ok (.lrem, 1) := by decide +kernel
theorem dX5_slip_41 : decode cX5_slip 41 = .ok (.iconst 2, 1) := by decide +kernel
theorem dX5_slip_42 : decode cX5_slip 42 = .ok (.iload 5, 2) := by decide +kernel
theorem dX5_slip_44 : decode cX5_slip 44 = .ok (.imul, 1) := by decide +kernel
theorem dX5_slip_45 : decode cX5_slip 45 = .ok (.iconst 1, 1) := by decide +kernel
theorem dX5_slip_46 : decode cX5_slip 46 = .ok (.iadd, 1) := by decide +kernel
theorem dX5_slip_47 : decode cX5_slip 47 = .ok (.i2l, 1) := by decide +kernel
theorem dX5_slip_48 : decode cX5_slip 48 = .ok (.lrem, 1) := by decide +kernel
theorem dX5_slip_49 : decode cX5_slip 49 = .ok (.l2i, 1) := by decide +kernel
theorem dX5_slip_50 : decode cX5_slip 50 = .ok (.iload 5, 2) := by decide +kernel
theorem dX5_slip_52 : decode cX5_slip 52 = .ok (.isub, 1) := by decide +kernel
theorem dX5_slip_53 : decode cX5_slip 53 = .ok (.ireturn, 1) := by decide +kernel
theorem dX5_cutLength_0 : decode cX5_cutLength 0 = .ok (.aload_n 0, 1) := by decide +kernel
theorem dX5_cutLength_1 : decode cX5_cutLength 1 = .ok (.getfield 18, 3) := by decide +kernel
theorem dX5_cutLength_4 : decode cX5_cutLength 4 = .ok (.iload_n 1, 1) := by decide +kernel
theorem dX5_cutLength_5 : decode cX5_cutLength 5 = .ok (.iaload, 1) := by decide +kernel
theorem dX5_cutLength_6 : decode cX5_cutLength 6 = .ok (.iload_n 2, 1) := by decide +kernel
theorem dX5_cutLength_7 : decode cX5_cutLength 7 = .ok (.iadd, 1) := by decide +kernel
theorem dX5_cutLength_8 : decode cX5_cutLength 8 = .ok (.aload_n 0, 1) := by decide +kernel
theorem dX5_cutLength_9 : decode cX5_cutLength 9 = .ok (.getfield 9, 3) := by decide +kernel
theorem dX5_cutLength_12 : decode cX5_cutLength 12 = .ok (.aload_n 0, 1) := by decide +kernel
theorem dX5_cutLength_13 : decode cX5_cutLength 13 = .ok (.getfield 15, 3) := by decide +kernel
theorem dX5_cutLength_16 : decode cX5_cutLength 16 = .ok (.iload_n 1, 1) := by decide +kernel
theorem dX5_cutLength_17 : decode cX5_cutLength 17 = .ok (.iaload, 1) := by decide +kernel
theorem dX5_cutLength_18 : decode cX5_cutLength 18 = .ok (.iaload, 1) := by decide +kernel
theorem dX5_cutLength_19 : decode cX5_cutLength 19 = .ok (.invokestatic 93, 3) := by decide +kernel
theorem dX5_cutLength_22 : decode cX5_cutLength 22 = .ok (.ireturn, 1) := by decide +kernel
theorem dX5_byInch_0 : decode cX5_byInch 0 = .ok (.iload_n 0, 1) := by decide +kernel
theorem dX5_byInch_1 : decode cX5_byInch 1 = .ok (.iload_n 1, 1) := by decide +kernel
theorem dX5_byInch_2 : decode cX5_byInch 2 = .ok (.imul, 1) := by decide +kernel
theorem dX5_byInch_3 : decode cX5_byInch 3 = .ok (.bipush 100, 2) := by decide +kernel
theorem dX5_byInch_5 : decode cX5_byInch 5 = .ok (.idiv, 1) := by decide +kernel
theorem dX5_byInch_6 : decode cX5_byInch 6 = .ok (.ireturn, 1) := by decide +kernel
theorem dX5_gapOf_0 : decode cX5_gapOf 0 = .ok (.aload_n 2, 1) := by decide +kernel
theorem dX5_gapOf_1 : decode cX5_gapOf 1 = .ok (.aload_n 0, 1) := by decide +kernel
theorem dX5_gapOf_2 : decode cX5_gapOf 2 = .ok (.getfield 24, 3) := by decide +kernel
theorem dX5_gapOf_5 : decode cX5_gapOf 5 = .ok (.iload_n 1, 1) := by decide +kernel
theorem dX5_gapOf_6 : decode cX5_gapOf 6 = .ok (.iaload, 1) := by decide +kernel
theorem dX5_gapOf_7 : decode cX5_gapOf 7 = .ok (.iaload, 1) := by decide +kernel
theorem dX5_gapOf_8 : decode cX5_gapOf 8 = .ok (.aload_n 2, 1) := by decide +kernel
theorem dX5_gapOf_9 : decode cX5_gapOf 9 = .ok (.aload_n 0, 1) := by decide +kernel
theorem dX5_gapOf_10 : decode cX5_gapOf 10 = .ok (.getfield 27, 3) := by decide +kernel
theorem dX5_gapOf_13 : decode cX5_gapOf 13 = .ok (.iload_n 1, 1) := by decide +kernel
theorem dX5_gapOf_14 : decode cX5_gapOf 14 = .ok (.iaload, 1) := by decide +kernel
theorem dX5_gapOf_15 : decode cX5_gapOf 15 = .ok (.iaload, 1) := by decide +kernel
theorem dX5_gapOf_16 : decode cX5_gapOf 16 = .ok (.isub, 1) := by decide +kernel
theorem dX5_gapOf_17 : decode cX5_gapOf 17 = .ok (.invokestatic 96, 3) := by decide +kernel
theorem dX5_gapOf_20 : decode cX5_gapOf 20 = .ok (.ireturn, 1) := by decide +kernel
theorem dX5_sumOfGaps_0 : decode cX5_sumOfGaps 0 = .ok (.iconst 0, 1) := by decide +kernel
theorem dX5_sumOfGaps_1 : decode cX5_sumOfGaps 1 = .ok (.istore_n 2, 1) := by decide +kernel
theorem dX5_sumOfGaps_2 : decode cX5_sumOfGaps 2 = .ok (.iconst 0, 1) := by decide +kernel
theorem dX5_sumOfGaps_3 : decode cX5_sumOfGaps 3 = .ok (.istore_n 3, 1) := by decide +kernel
theorem dX5_sumOfGaps_4 : decode cX5_sumOfGaps 4 = .ok (.iload_n 3, 1) := by decide +kernel
theorem dX5_sumOfGaps_5 : decode cX5_sumOfGaps 5 = .ok (.aload_n 0, 1) := by decide +kernel
theorem dX5_sumOfGaps_6 : decode cX5_sumOfGaps 6 = .ok (.getfield 37, 3) := by decide +kernel
theorem dX5_sumOfGaps_9 : decode cX5_sumOfGaps 9 = .ok (.if_icmp .ge 18, 3) := by decide +kernel
theorem dX5_sumOfGaps_12 : decode cX5_sumOfGaps 12 = .ok (.iload_n 2, 1) := by decide +kernel
theorem dX5_sumOfGaps_13 : decode cX5_sumOfGaps 13 = .ok (.aload_n 0, 1) := by decide +kernel
theorem dX5_sumOfGaps_14 : decode cX5_sumOfGaps 14 = .ok (.iload_n 3, 1) := by decide +kernel
theorem dX5_sumOfGaps_15 : decode cX5_sumOfGaps 15 = .ok (.aload_n 1, 1) := by decide +kernel
theorem dX5_sumOfGaps_16 : decode cX5_sumOfGaps 16 = .ok (.invokevirtual 100, 3) := by decide +kernel
theorem dX5_sumOfGaps_19 : decode cX5_sumOfGaps 19 = .ok (.iadd, 1) := by decide +kernel
theorem dX5_sumOfGaps_20 : decode cX5_sumOfGaps 20 = .ok (.istore_n 2, 1) := by decide +kernel
theorem dX5_sumOfGaps_21 : decode cX5_sumOfGaps 21 = .ok (.iinc 3 1, 3) := by decide +kernel
theorem dX5_sumOfGaps_24 : decode cX5_sumOfGaps 24 = .ok (.goto (-20), 3) := by decide +kernel
theorem dX5_sumOfGaps_27 : decode cX5_sumOfGaps 27 = .ok (.iload_n 2, 1) := by decide +kernel
theorem dX5_sumOfGaps_28 : decode cX5_sumOfGaps 28 = .ok (.ireturn, 1) := by decide +kernel
theorem dX5_isClosedBy_0 : decode cX5_isClosedBy 0 = .ok (.iconst 0, 1) := by decide +kernel
theorem dX5_isClosedBy_1 : decode cX5_isClosedBy 1 = .ok (.istore_n 2, 1) := by decide +kernel
theorem dX5_isClosedBy_2 : decode cX5_isClosedBy 2 = .ok (.iload_n 2, 1) := by decide +kernel
theorem dX5_isClosedBy_3 : decode cX5_isClosedBy 3 = .ok (.aload_n 0, 1) := by decide +kernel
theorem dX5_isClosedBy_4 : decode cX5_isClosedBy 4 = .ok (.getfield 37, 3) := by decide +kernel
theorem dX5_isClosedBy_7 : decode cX5_isClosedBy 7 = .ok (.if_icmp .ge 24, 3) := by decide +kernel
theorem dX5_isClosedBy_10 : decode cX5_isClosedBy 10 = .ok (.aload_n 0, 1) := by decide +kernel
theorem dX5_isClosedBy_11 : decode cX5_isClosedBy 11 = .ok (.iload_n 2, 1) := by decide +kernel
theorem dX5_isClosedBy_12 : decode cX5_isClosedBy 12 = .ok (.aload_n 1, 1) := by decide +kernel
theorem dX5_isClosedBy_13 : decode cX5_isClosedBy 13 = .ok (.invokevirtual 100, 3) := by decide +kernel
theorem dX5_isClosedBy_16 : decode cX5_isClosedBy 16 = .ok (.aload_n 0, 1) := by decide +kernel
theorem dX5_isClosedBy_17 : decode cX5_isClosedBy 17 = .ok (.getfield 40, 3) := by decide +kernel
theorem dX5_isClosedBy_20 : decode cX5_isClosedBy 20 = .ok (.if_icmp .le 5, 3) := by decide +kernel
theorem dX5_isClosedBy_23 : decode cX5_isClosedBy 23 = .ok (.iconst 0, 1) := by decide +kernel
theorem dX5_isClosedBy_24 : decode cX5_isClosedBy 24 = .ok (.ireturn, 1) := by decide +kernel
theorem dX5_isClosedBy_25 : decode cX5_isClosedBy 25 = .ok (.iinc 2 1, 3) := by decide +kernel
theorem dX5_isClosedBy_28 : decode cX5_isClosedBy 28 = .ok (.goto (-26), 3) := by decide +kernel
theorem dX5_isClosedBy_31 : decode cX5_isClosedBy 31 = .ok (.iconst 1, 1) := by decide +kernel
theorem dX5_isClosedBy_32 : decode cX5_isClosedBy 32 = .ok (.ireturn, 1) := by decide +kernel
theorem dX5_sumOfSet_0 : decode cX5_sumOfSet 0 = .ok (.iconst 0, 1) := by decide +kernel
theorem dX5_sumOfSet_1 : decode cX5_sumOfSet 1 = .ok (.istore_n 3, 1) := by decide +kernel
theorem dX5_sumOfSet_2 : decode cX5_sumOfSet 2 = .ok (.iconst 0, 1) := by decide +kernel
theorem dX5_sumOfSet_3 : decode cX5_sumOfSet 3 = .ok (.istore 4, 2) := by decide +kernel
theorem dX5_sumOfSet_5 : decode cX5_sumOfSet 5 = .ok (.iload 4, 2) := by decide +kernel
theorem dX5_sumOfSet_7 : decode cX5_sumOfSet 7 = .ok (.aload_n 0, 1) := by decide +kernel
theorem dX5_sumOfSet_8 : decode cX5_sumOfSet 8 = .ok (.getfield 34, 3) := by decide +kernel
theorem dX5_sumOfSet_11 : decode cX5_sumOfSet 11 = .ok (.if_icmp .ge 30, 3) := by decide +kernel
theorem dX5_sumOfSet_14 : decode cX5_sumOfSet 14 = .ok (.iload_n 3, 1) := by decide +kernel
theorem dX5_sumOfSet_15 : decode cX5_sumOfSet 15 = .ok (.iload_n 2, 1) := by decide +kernel
theorem dX5_sumOfSet_16 : decode cX5_sumOfSet 16 = .ok (.iload 4, 2) := by decide +kernel
theorem dX5_sumOfSet_18 : decode cX5_sumOfSet 18 = .ok (.ishr, 1) := by decide +kernel
theorem dX5_sumOfSet_19 : decode cX5_sumOfSet 19 = .ok (.iconst 1, 1) := by decide +kernel
theorem dX5_sumOfSet_20 : decode cX5_sumOfSet 20 = .ok (.iand, 1) := by decide +kernel
theorem dX5_sumOfSet_21 : decode cX5_sumOfSet 21 = .ok (.iconst 1, 1) := by decide +kernel
theorem dX5_sumOfSet_22 : decode cX5_sumOfSet 22 = .ok (.if_icmp .ne 10, 3) := by decide +kernel
theorem dX5_sumOfSet_25 : decode cX5_sumOfSet 25 = .ok (.aload_n 1, 1) := by decide +kernel
theorem dX5_sumOfSet_26 : decode cX5_sumOfSet 26 = .ok (.iload 4, 2) := by decide +kernel
theorem dX5_sumOfSet_28 : decode cX5_sumOfSet 28 = .ok (.iaload, 1) := by decide +kernel
theorem dX5_sumOfSet_29 : decode cX5_sumOfSet 29 = .ok (.goto 4, 3) := by decide +kernel
theorem dX5_sumOfSet_32 : decode cX5_sumOfSet 32 = .ok (.iconst 0, 1) := by decide +kernel
theorem dX5_sumOfSet_33 : decode cX5_sumOfSet 33 = .ok (.iadd, 1) := by decide +kernel
theorem dX5_sumOfSet_34 : decode cX5_sumOfSet 34 = .ok (.istore_n 3, 1) := by decide +kernel
theorem dX5_sumOfSet_35 : decode cX5_sumOfSet 35 = .ok (.iinc 4 1, 3) := by decide +kernel
theorem dX5_sumOfSet_38 : decode cX5_sumOfSet 38 = .ok (.goto (-33), 3) := by decide +kernel
theorem dX5_sumOfSet_41 : decode cX5_sumOfSet 41 = .ok (.iload_n 3, 1) := by decide +kernel
theorem dX5_sumOfSet_42 : decode cX5_sumOfSet 42 = .ok (.ireturn, 1) := by decide +kernel
theorem dX6_init_0 : decode cX6_init 0 = .ok (.aload_n 0, 1) := by decide +kernel
theorem dX6_init_1 : decode cX6_init 1 = .ok (.invokespecial 3, 3) := by decide +kernel
theorem dX6_init_4 : decode cX6_init 4 = .ok (.aload_n 0, 1) := by decide +kernel
theorem dX6_init_5 : decode cX6_init 5 = .ok (.bipush 10, 2) := by decide +kernel
theorem dX6_init_7 : decode cX6_init 7 = .ok (.newarray .int, 2) := by decide +kernel
theorem dX6_init_9 : decode cX6_init 9 = .ok (.putfield 9, 3) := by decide +kernel
theorem dX6_init_12 : decode cX6_init 12 = .ok (.aload_n 0, 1) := by decide +kernel
theorem dX6_init_13 : decode cX6_init 13 = .ok (.bipush 10, 2) := by decide +kernel
theorem dX6_init_15 : decode cX6_init 15 = .ok (.newarray .int, 2) := by decide +kernel
theorem dX6_init_17 : decode cX6_init 17 = .ok (.putfield 15, 3) := by decide +kernel
theorem dX6_init_20 : decode cX6_init 20 = .ok (.aload_n 0, 1) := by decide +kernel
theorem dX6_init_21 : decode cX6_init 21 = .ok (.bipush 10, 2) := by decide +kernel
theorem dX6_init_23 : decode cX6_init 23 = .ok (.newarray .int, 2) := by decide +kernel
theorem dX6_init_25 : decode cX6_init 25 = .ok (.putfield 18, 3) := by decide +kernel
theorem dX6_init_28 : decode cX6_init 28 = .ok (.aload_n 0, 1) := by decide +kernel
theorem dX6_init_29 : decode cX6_init 29 = .ok (.iconst 0, 1) := by decide +kernel
theorem dX6_init_30 : decode cX6_init 30 = .ok (.putfield 21, 3) := by decide +kernel
theorem dX6_init_33 : decode cX6_init 33 = .ok (.return_, 1) := by decide +kernel
theorem dX6_add_0 : decode cX6_add 0 = .ok (.aload_n 0, 1) := by decide +kernel
theorem dX6_add_1 : decode cX6_add 1 = .ok (.getfield 21, 3) := by decide +kernel
theorem dX6_add_4 : decode cX6_add 4 = .ok (.bipush 10, 2) := by decide +kernel
theorem dX6_add_6 : decode cX6_add 6 = .ok (.if_icmp .ge 43, 3) := by decide +kernel
theorem dX6_add_9 : decode cX6_add 9 = .ok (.aload_n 0, 1) := by decide +kernel
theorem dX6_add_10 : decode cX6_add 10 = .ok (.getfield 9, 3) := by decide +kernel
theorem dX6_add_13 : decode cX6_add 13 = .ok (.aload_n 0, 1) := by decide +kernel
theorem dX6_add_14 : decode cX6_add 14 = .ok (.getfield 21, 3) := by decide +kernel
theorem dX6_add_17 : decode cX6_add 17 = .ok (.iload_n 1, 1) := by decide +kernel
theorem dX6_add_18 : decode cX6_add 18 = .ok (.iastore, 1) := by decide +kernel
theorem dX6_add_19 : decode cX6_add 19 = .ok (.aload_n 0, 1) := by decide +kernel
theorem dX6_add_20 : decode cX6_add 20 = .ok (.getfield 15, 3) := by decide +kernel
theorem dX6_add_23 : decode cX6_add 23 = .ok (.aload_n 0, 1) := by decide +kernel
theorem dX6_add_24 : decode cX6_add 24 = .ok (.getfield 21, 3) := by decide +kernel
theorem dX6_add_27 : decode cX6_add 27 = .ok (.iload_n 2, 1) := by decide +kernel
theorem dX6_add_28 : decode cX6_add 28 = .ok (.iastore, 1) := by decide +kernel
theorem dX6_add_29 : decode cX6_add 29 = .ok (.aload_n 0, 1) := by decide +kernel
theorem dX6_add_30 : decode cX6_add 30 = .ok (.getfield 18, 3) := by decide +kernel
theorem dX6_add_33 : decode cX6_add 33 = .ok (.aload_n 0, 1) := by decide +kernel
theorem dX6_add_34 : decode cX6_add 34 = .ok (.getfield 21, 3) := by decide +kernel
theorem dX6_add_37 : decode cX6_add 37 = .ok (.iload_n 3, 1) := by decide +kernel
theorem dX6_add_38 : decode cX6_add 38 = .ok (.iastore, 1) := by decide +kernel
theorem dX6_add_39 : decode cX6_add 39 = .ok (.aload_n 0, 1) := by decide +kernel
theorem dX6_add_40 : decode cX6_add 40 = .ok (.dup, 1) := by decide +kernel
theorem dX6_add_41 : decode cX6_add 41 = .ok (.getfield 21, 3) := by decide +kernel
theorem dX6_add_44 : decode cX6_add 44 = .ok (.iconst 1, 1) := by decide +kernel
theorem dX6_add_45 : decode cX6_add 45 = .ok (.iadd, 1) := by decide +kernel
theorem dX6_add_46 : decode cX6_add 46 = .ok (.putfield 21, 3) := by decide +kernel
theorem dX6_add_49 : decode cX6_add 49 = .ok (.return_, 1) := by decide +kernel
theorem dX6_agreeWith_0 : decode cX6_agreeWith 0 = .ok (.iconst 0, 1) := by decide +kernel
theorem dX6_agreeWith_1 : decode cX6_agreeWith 1 = .ok (.istore_n 3, 1) := by decide +kernel
theorem dX6_agreeWith_2 : decode cX6_agreeWith 2 = .ok (.iload_n 3, 1) := by decide +kernel
theorem dX6_agreeWith_3 : decode cX6_agreeWith 3 = .ok (.aload_n 0, 1) := by decide +kernel
theorem dX6_agreeWith_4 : decode cX6_agreeWith 4 = .ok (.getfield 21, 3) := by decide +kernel
theorem dX6_agreeWith_7 : decode cX6_agreeWith 7 = .ok (.if_icmp .ge 40, 3) := by decide +kernel
theorem dX6_agreeWith_10 : decode cX6_agreeWith 10 = .ok (.aload_n 0, 1) := by decide +kernel
theorem dX6_agreeWith_11 : decode cX6_agreeWith 11 = .ok (.getfield 9, 3) := by decide +kernel
theorem dX6_agreeWith_14 : decode cX6_agreeWith 14 = .ok (.iload_n 3, 1) := by decide +kernel
theorem dX6_agreeWith_15 : decode cX6_agreeWith 15 = .ok (.iaload, 1) := by decide +kernel
theorem dX6_agreeWith_16 : decode cX6_agreeWith 16 = .ok (.iload_n 1, 1) := by decide +kernel
theorem dX6_agreeWith_17 : decode cX6_agreeWith 17 = .ok (.if_icmp .ne 24, 3) := by decide +kernel
theorem dX6_agreeWith_20 : decode cX6_agreeWith 20 = .ok (.aload_n 0, 1) := by decide +kernel
theorem dX6_agreeWith_21 : decode cX6_agreeWith 21 = .ok (.getfield 15, 3) := by decide +kernel
theorem dX6_agreeWith_24 : decode cX6_agreeWith 24 = .ok (.iload_n 3, 1) := by decide +kernel
theorem dX6_agreeWith_25 : decode cX6_agreeWith 25 = .ok (.iaload, 1) := by decide +kernel
theorem dX6_agreeWith_26 : decode cX6_agreeWith 26 = .ok (.iload_n 2, 1) := by decide +kernel
theorem dX6_agreeWith_27 : decode cX6_agreeWith 27 = .ok (.invokestatic 25, 3) := by decide +kernel
theorem dX6_agreeWith_30 : decode cX6_agreeWith 30 = .ok (.aload_n 0, 1) := by decide +kernel
theorem dX6_agreeWith_31 : decode cX6_agreeWith 31 = .ok (.getfield 18, 3) := by decide +kernel
theorem dX6_agreeWith_34 : decode cX6_agreeWith 34 = .ok (.iload_n 3, 1) := by decide +kernel
theorem dX6_agreeWith_35 : decode cX6_agreeWith 35 = .ok (.iaload, 1) := by decide +kernel
theorem dX6_agreeWith_36 : decode cX6_agreeWith 36 = .ok (.if_icmp .eq 5, 3) := by decide +kernel
theorem dX6_agreeWith_39 : decode cX6_agreeWith 39 = .ok (.iconst 0, 1) := by decide +kernel
theorem dX6_agreeWith_40 : decode cX6_agreeWith 40 = .ok (.ireturn, 1) := by decide +kernel
theorem dX6_agreeWith_41 : decode cX6_agreeWith 41 = .ok (.iinc 3 1, 3) := by decide +kernel
theorem dX6_agreeWith_44 : decode cX6_agreeWith 44 = .ok (.goto (-42), 3) := by decide +kernel
theorem dX6_agreeWith_47 : decode cX6_agreeWith 47 = .ok (.iconst 1, 1) := by decide +kernel
theorem dX6_agreeWith_48 : decode cX6_agreeWith 48 = .ok (.ireturn, 1) := by decide +kernel
theorem dX7_init_0 : decode cX7_init 0 = .ok (.aload_n 0, 1) := by decide +kernel
theorem dX7_init_1 : decode cX7_init 1 = .ok (.invokespecial 3, 3) := by decide +kernel
theorem dX7_init_4 : decode cX7_init 4 = .ok (.aload_n 0, 1) := by decide +kernel
theorem dX7_init_5 : decode cX7_init 5 = .ok (.sipush 300, 3) := by decide +kernel
theorem dX7_init_8 : decode cX7_init 8 = .ok (.newarray .byte, 2) := by decide +kernel
theorem dX7_init_10 : decode cX7_init 10 = .ok (.putfield 9, 3) := by decide +kernel
theorem dX7_init_13 : decode cX7_init 13 = .ok (.aload_n 0, 1) := by decide +kernel
theorem dX7_init_14 : decode cX7_init 14 = .ok (.iconst 3, 1) := by decide +kernel
theorem dX7_init_15 : decode cX7_init 15 = .ok (.newarray .int, 2) := by decide +kernel
theorem dX7_init_17 : decode cX7_init 17 = .ok (.putfield 15, 3) := by decide +kernel
theorem dX7_init_20 : decode cX7_init 20 = .ok (.aload_n 0, 1) := by decide +kernel
theorem dX7_init_21 : decode cX7_init 21 = .ok (.iconst 0, 1) := by decide +kernel
theorem dX7_init_22 : decode cX7_init 22 = .ok (.putfield 19, 3) := by decide +kernel
theorem dX7_init_25 : decode cX7_init 25 = .ok (.return_, 1) := by decide +kernel
theorem dX7_append_0 : decode cX7_append 0 = .ok (.aload_n 0, 1) := by decide +kernel
theorem dX7_append_1 : decode cX7_append 1 = .ok (.getfield 19, 3) := by decide +kernel
theorem dX7_append_4 : decode cX7_append 4 = .ok (.sipush 300, 3) := by decide +kernel
theorem dX7_append_7 : decode cX7_append 7 = .ok (.if_icmp .ge 24, 3) := by decide +kernel
theorem dX7_append_10 : decode cX7_append 10 = .ok (.aload_n 0, 1) := by decide +kernel
theorem dX7_append_11 : decode cX7_append 11 = .ok (.getfield 9, 3) := by decide +kernel
theorem dX7_append_14 : decode cX7_append 14 = .ok (.aload_n 0, 1) := by decide +kernel
theorem dX7_append_15 : decode cX7_append 15 = .ok (.getfield 19, 3) := by decide +kernel
theorem dX7_append_18 : decode cX7_append 18 = .ok (.iload_n 1, 1) := by decide +kernel
theorem dX7_append_19 : decode cX7_append 19 = .ok (.i2b, 1) := by decide +kernel
theorem dX7_append_20 : decode cX7_append 20 = .ok (.bastore, 1) := by decide +kernel
theorem dX7_append_21 : decode cX7_append 21 = .ok (.aload_n 0, 1) := by decide +kernel
theorem dX7_append_22 : decode cX7_append 22 = .ok (.dup, 1) := by decide +kernel
theorem dX7_append_23 : decode cX7_append 23 = .ok (.getfield 19, 3) := by decide +kernel
theorem dX7_append_26 : decode cX7_append 26 = .ok (.iconst 1, 1) := by decide +kernel
theorem dX7_append_27 : decode cX7_append 27 = .ok (.iadd, 1) := by decide +kernel
theorem dX7_append_28 : decode cX7_append 28 = .ok (.putfield 19, 3) := by decide +kernel
theorem dX7_append_31 : decode cX7_append 31 = .ok (.return_, 1) := by decide +kernel
theorem dX7_readInto_0 : decode cX7_readInto 0 = .ok (.aload_n 1, 1) := by decide +kernel
theorem dX7_readInto_1 : decode cX7_readInto 1 = .ok (.invokevirtual 23, 3) := by decide +kernel
theorem dX7_readInto_4 : decode cX7_readInto 4 = .ok (.iconst 0, 1) := by decide +kernel
theorem dX7_readInto_5 : decode cX7_readInto 5 = .ok (.istore_n 2, 1) := by decide +kernel
theorem dX7_readInto_6 : decode cX7_readInto 6 = .ok (.iconst 0, 1) := by decide +kernel
theorem dX7_readInto_7 : decode cX7_readInto 7 = .ok (.istore_n 3, 1) := by decide +kernel
theorem dX7_readInto_8 : decode cX7_readInto 8 = .ok (.iload_n 3, 1) := by decide +kernel
theorem dX7_readInto_9 : decode cX7_readInto 9 = .ok (.sipush 300, 3) := by decide +kernel
theorem dX7_readInto_12 : decode cX7_readInto 12 = .ok (.if_icmp .ge 60, 3) := by decide +kernel
theorem dX7_readInto_15 : decode cX7_readInto 15 = .ok (.iload_n 2, 1) := by decide +kernel
theorem dX7_readInto_16 : decode cX7_readInto 16 = .ok (.aload_n 0, 1) := by decide +kernel
theorem dX7_readInto_17 : decode cX7_readInto 17 = .ok (.getfield 19, 3) := by decide +kernel
theorem dX7_readInto_20 : decode cX7_readInto 20 = .ok (.if_icmp .ge 52, 3) := by decide +kernel
theorem dX7_readInto_23 : decode cX7_readInto 23 = .ok (.aload_n 0, 1) := by decide +kernel
theorem dX7_readInto_24 : decode cX7_readInto 24 = .ok (.iload_n 2, 1) := by decide +kernel
theorem dX7_readInto_25 : decode cX7_readInto 25 = .ok (.invokevirtual 28, 3) := by decide +kernel
theorem dX7_readInto_28 : decode cX7_readInto 28 = .ok (.istore 4, 2) := by decide +kernel
theorem dX7_readInto_30 : decode cX7_readInto 30 = .ok (.aload_n 0, 1) := by decide +kernel
theorem dX7_readInto_31 : decode cX7_readInto 31 = .ok (.iload_n 2, 1) := by decide +kernel
theorem dX7_readInto_32 : decode cX7_readInto 32 = .ok (.iload 4, 2) := by decide +kernel
theorem dX7_readInto_34 : decode cX7_readInto 34 = .ok (.invokestatic 32, 3) := by decide +kernel
theorem dX7_readInto_37 : decode cX7_readInto 37 = .ok (.invokevirtual 35, 3) := by decide +kernel
theorem dX7_readInto_40 : decode cX7_readInto 40 = .ok (.istore 5, 2) := by decide +kernel
theorem dX7_readInto_42 : decode cX7_readInto 42 = .ok (.iload 5, 2) := by decide +kernel
theorem dX7_readInto_44 : decode cX7_readInto 44 = .ok (.iconst (-1), 1) := by decide +kernel
theorem dX7_readInto_45 : decode cX7_readInto 45 = .ok (.if_icmp .eq 16, 3) := by decide +kernel
theorem dX7_readInto_48 : decode cX7_readInto 48 = .ok (.aload_n 1, 1) := by decide +kernel
theorem dX7_readInto_49 : decode cX7_readInto 49 = .ok (.iload 4, 2) := by decide +kernel
theorem dX7_readInto_51 : decode cX7_readInto 51 = .ok (.aload_n 0, 1) := by decide +kernel
theorem dX7_readInto_52 : decode cX7_readInto 52 = .ok (.getfield 15, 3) := by decide +kernel
theorem dX7_readInto_55 : decode cX7_readInto 55 = .ok (.invokevirtual 39, 3) := by decide +kernel
theorem dX7_readInto_58 : decode cX7_readInto 58 = .ok (.ifCond .ne 5, 3) := by decide +kernel
theorem dX7_readInto_61 : decode cX7_readInto 61 = .ok (.iload_n 2, 1) := by decide +kernel
theorem dX7_readInto_62 : decode cX7_readInto 62 = .ok (.ireturn, 1) := by decide +kernel
theorem dX7_readInto_63 : decode cX7_readInto 63 = .ok (.iload 5, 2) := by decide +kernel
theorem dX7_readInto_65 : decode cX7_readInto 65 = .ok (.istore_n 2, 1) := by decide +kernel
theorem dX7_readInto_66 : decode cX7_readInto 66 = .ok (.iinc 3 1, 3) := by decide +kernel
theorem dX7_readInto_69 : decode cX7_readInto 69 = .ok (.goto (-61), 3) := by decide +kernel
theorem dX7_readInto_72 : decode cX7_readInto 72 = .ok (.bipush (-4), 2) := by decide +kernel
theorem dX7_readInto_74 : decode cX7_readInto 74 = .ok (.ireturn, 1) := by decide +kernel
theorem dX7_numbersBehind_0 : decode cX7_numbersBehind 0 = .ok (.iload_n 0, 1) := by decide +kernel
theorem dX7_numbersBehind_1 : decode cX7_numbersBehind 1 = .ok (.lookupswitch 65 #[(99, 59), (103, 59), (112, 63), (115, 61), (116, 59), (122, 59)], 59) := by decide +kernel
theorem dX7_numbersBehind_60 : decode cX7_numbersBehind 60 = .ok (.iconst 1, 1) := by decide +kernel
theorem dX7_numbersBehind_61 : decode cX7_numbersBehind 61 = .ok (.ireturn, 1) := by decide +kernel
theorem dX7_numbersBehind_62 : decode cX7_numbersBehind 62 = .ok (.iconst 2, 1) := by decide +kernel
theorem dX7_numbersBehind_63 : decode cX7_numbersBehind 63 = .ok (.ireturn, 1) := by decide +kernel
theorem dX7_numbersBehind_64 : decode cX7_numbersBehind 64 = .ok (.iconst 3, 1) := by decide +kernel
theorem dX7_numbersBehind_65 : decode cX7_numbersBehind 65 = .ok (.ireturn, 1) := by decide +kernel
theorem dX7_numbersBehind_66 : decode cX7_numbersBehind 66 = .ok (.iconst 0, 1) := by decide +kernel
theorem dX7_numbersBehind_67 : decode cX7_numbersBehind 67 = .ok (.ireturn, 1) := by decide +kernel
theorem dX7_readItem_0 : decode cX7_readItem 0 = .ok (.iload_n 2, 1) := by decide +kernel
theorem dX7_readItem_1 : decode cX7_readItem 1 = .ok (.ifCond .ne 5, 3) := by decide +kernel
theorem dX7_readItem_4 : decode cX7_readItem 4 = .ok (.iconst (-1), 1) := by decide +kernel
theorem dX7_readItem_5 : decode cX7_readItem 5 = .ok (.ireturn, 1) := by decide +kernel
theorem dX7_readItem_6 : decode cX7_readItem 6 = .ok (.iload_n 1, 1) := by decide +kernel
theorem dX7_readItem_7 : decode cX7_readItem 7 = .ok (.iconst 1, 1) := by decide +kernel
theorem dX7_readItem_8 : decode cX7_readItem 8 = .ok (.iadd, 1) := by decide +kernel
theorem dX7_readItem_9 : decode cX7_readItem 9 = .ok (.istore_n 3, 1) := by decide +kernel
theorem dX7_readItem_10 : decode cX7_readItem 10 = .ok (.iconst 0, 1) := by decide +kernel
theorem dX7_readItem_11 : decode cX7_readItem 11 = .ok (.istore 4, 2) := by decide +kernel
theorem dX7_readItem_13 : decode cX7_readItem 13 = .ok (.iload 4, 2) := by decide +kernel
theorem dX7_readItem_15 : decode cX7_readItem 15 = .ok (.iload_n 2, 1) := by decide +kernel
theorem dX7_readItem_16 : decode cX7_readItem 16 = .ok (.if_icmp .ge 50, 3) := by decide +kernel
theorem dX7_readItem_19 : decode cX7_readItem 19 = .ok (.aload_n 0, 1) := by decide +kernel
theorem dX7_readItem_20 : decode cX7_readItem 20 = .ok (.iload_n 3, 1) := by decide +kernel
theorem dX7_readItem_21 : decode cX7_readItem 21 = .ok (.iload 4, 2) := by decide +kernel
theorem dX7_readItem_23 : decode cX7_readItem 23 = .ok (.invokevirtual 43, 3) := by decide +kernel
theorem dX7_readItem_26 : decode cX7_readItem 26 = .ok (.istore_n 3, 1) := by decide +kernel
theorem dX7_readItem_27 : decode cX7_readItem 27 = .ok (.iload_n 3, 1) := by decide +kernel
theorem dX7_readItem_28 : decode cX7_readItem 28 = .ok (.iconst (-1), 1) := by decide +kernel
theorem dX7_readItem_29 : decode cX7_readItem 29 = .ok (.if_icmp .eq 26, 3) := by decide +kernel
theorem dX7_readItem_32 : decode cX7_readItem 32 = .ok (.aload_n 0, 1) := by decide +kernel
theorem dX7_readItem_33 : decode cX7_readItem 33 = .ok (.iload_n 3, 1) := by decide +kernel
theorem dX7_readItem_34 : decode cX7_readItem 34 = .ok (.invokevirtual 28, 3) := by decide +kernel
theorem dX7_readItem_37 : decode cX7_readItem 37 = .ok (.iload 4, 2) := by decide +kernel
theorem dX7_readItem_39 : decode cX7_readItem 39 = .ok (.iconst 1, 1) := by decide +kernel
theorem dX7_readItem_40 : decode cX7_readItem 40 = .ok (.iadd, 1) := by decide +kernel
theorem dX7_readItem_41 : decode cX7_readItem 41 = .ok (.iload_n 2, 1) := by decide +kernel
theorem dX7_readItem_42 : decode cX7_readItem 42 = .ok (.if_icmp .ge 8, 3) := by decide +kernel
theorem dX7_readItem_45 : decode cX7_readItem 45 = .ok (.bipush 44, 2) := by decide +kernel
theorem dX7_readItem_47 : decode cX7_readItem 47 = .ok (.goto 5, 3) := by decide +kernel
theorem dX7_readItem_50 : decode cX7_readItem 50 = .ok (.bipush 59, 2) := by decide +kernel
theorem dX7_readItem_52 : decode cX7_readItem 52 = .ok (.if_icmp .eq 5, 3) := by decide +kernel
theorem dX7_readItem_55 : decode cX7_readItem 55 = .ok (.iconst (-1), 1) := by decide +kernel
theorem dX7_readItem_56 : decode cX7_readItem 56 = .ok (.ireturn, 1) := by decide +kernel
theorem dX7_readItem_57 : decode cX7_readItem 57 = .ok (.iinc 3 1, 3) := by decide +kernel
theorem dX7_readItem_60 : decode cX7_readItem 60 = .ok (.iinc 4 1, 3) := by decide +kernel
theorem dX7_readItem_63 : decode cX7_readItem 63 = .ok (.goto (-50), 3) := by decide +kernel
theorem dX7_readItem_66 : decode cX7_readItem 66 = .ok (.iload_n 3, 1) := by decide +kernel
theorem dX7_readItem_67 : decode cX7_readItem 67 = .ok (.ireturn, 1) := by decide +kernel
theorem dX7_readNumber_0 : decode cX7_readNumber 0 = .ok (.iload_n 1, 1) := by decide +kernel
theorem dX7_readNumber_1 : decode cX7_readNumber 1 = .ok (.istore_n 3, 1) := by decide +kernel
theorem dX7_readNumber_2 : decode cX7_readNumber 2 = .ok (.iconst 0, 1) := by decide +kernel
theorem dX7_readNumber_3 : decode cX7_readNumber 3 = .ok (.istore 4, 2) := by decide +kernel
theorem dX7_readNumber_5 : decode cX7_readNumber 5 = .ok (.iload_n 3, 1) := by decide +kernel
theorem dX7_readNumber_6 : decode cX7_readNumber 6 = .ok (.iload_n 1, 1) := by decide +kernel
theorem dX7_readNumber_7 : decode cX7_readNumber 7 = .ok (.iconst 3, 1) := by decide +kernel
theorem dX7_readNumber_8 : decode cX7_readNumber 8 = .ok (.iadd, 1) := by decide +kernel
theorem dX7_readNumber_9 : decode cX7_readNumber 9 = .ok (.if_icmp .ge 45, 3) := by decide +kernel
theorem dX7_readNumber_12 : decode cX7_readNumber 12 = .ok (.aload_n 0, 1) := by decide +kernel
theorem dX7_readNumber_13 : decode cX7_readNumber 13 = .ok (.iload_n 3, 1) := by decide +kernel
theorem dX7_readNumber_14 : decode cX7_readNumber 14 = .ok (.invokevirtual 28, 3) := by decide +kernel
theorem dX7_readNumber_17 : decode cX7_readNumber 17 = .ok (.bipush 48, 2) := by decide +kernel
theorem dX7_readNumber_19 : decode cX7_readNumber 19 = .ok (.if_icmp .lt 35, 3) := by decide +kernel
theorem dX7_readNumber_22 : decode cX7_readNumber 22 = .ok (.aload_n 0, 1) := by decide +kernel
theorem dX7_readNumber_23 : decode cX7_readNumber 23 = .ok (.iload_n 3, 1) := by decide +kernel
theorem dX7_readNumber_24 : decode cX7_readNumber 24 = .ok (.invokevirtual 28, 3) := by decide +kernel
theorem dX7_readNumber_27 : decode cX7_readNumber 27 = .ok (.bipush 57, 2) := by decide +kernel
theorem dX7_readNumber_29 : decode cX7_readNumber 29 = .ok (.if_icmp .gt 25, 3) := by decide +kernel
theorem dX7_readNumber_32 : decode cX7_readNumber 32 = .ok (.bipush 10, 2) := by decide +kernel
theorem dX7_readNumber_34 : decode cX7_readNumber 34 = .ok (.iload 4, 2) := by decide +kernel
theorem dX7_readNumber_36 : decode cX7_readNumber 36 = .ok (.imul, 1) := by decide +kernel
theorem dX7_readNumber_37 : decode cX7_readNumber 37 = .ok (.aload_n 0, 1) := by decide +kernel
theorem dX7_readNumber_38 : decode cX7_readNumber 38 = .ok (.iload_n 3, 1) := by decide +kernel
theorem dX7_readNumber_39 : decode cX7_readNumber 39 = .ok (.invokevirtual 28, 3) := by decide +kernel
theorem dX7_readNumber_42 : decode cX7_readNumber 42 = .ok (.iadd, 1) := by decide +kernel
theorem dX7_readNumber_43 : decode cX7_readNumber 43 = .ok (.bipush 48, 2) := by decide +kernel
theorem dX7_readNumber_45 : decode cX7_readNumber 45 = .ok (.isub, 1) := by decide +kernel
theorem dX7_readNumber_46 : decode cX7_readNumber 46 = .ok (.istore 4, 2) := by decide +kernel
theorem dX7_readNumber_48 : decode cX7_readNumber 48 = .ok (.iinc 3 1, 3) := by decide +kernel
theorem dX7_readNumber_51 : decode cX7_readNumber 51 = .ok (.goto (-46), 3) := by decide +kernel
theorem dX7_readNumber_54 : decode cX7_readNumber 54 = .ok (.iload_n 3, 1) := by decide +kernel
theorem dX7_readNumber_55 : decode cX7_readNumber 55 = .ok (.iload_n 1, 1) := by decide +kernel
theorem dX7_readNumber_56 : decode cX7_readNumber 56 = .ok (.if_icmp .eq 12, 3) := by decide +kernel
theorem dX7_readNumber_59 : decode cX7_readNumber 59 = .ok (.iload_n 2, 1) := by decide +kernel
theorem dX7_readNumber_60 : decode cX7_readNumber 60 = .ok (.ifCond .lt 8, 3) := by decide +kernel
theorem dX7_readNumber_63 : decode cX7_readNumber 63 = .ok (.iload_n 2, 1) := by decide +kernel
theorem dX7_readNumber_64 : decode cX7_readNumber 64 = .ok (.iconst 3, 1) := by decide +kernel
theorem dX7_readNumber_65 : decode cX7_readNumber 65 = .ok (.if_icmp .lt 5, 3) := by decide +kernel
theorem dX7_readNumber_68 : decode cX7_readNumber 68 = .ok (.iconst (-1), 1) := by decide +kernel
theorem dX7_readNumber_69 : decode cX7_readNumber 69 = .ok (.ireturn, 1) := by decide +kernel
theorem dX7_readNumber_70 : decode cX7_readNumber 70 = .ok (.aload_n 0, 1) := by decide +kernel
theorem dX7_readNumber_71 : decode cX7_readNumber 71 = .ok (.getfield 15, 3) := by decide +kernel
theorem dX7_readNumber_74 : decode cX7_readNumber 74 = .ok (.iload_n 2, 1) := by decide +kernel
theorem dX7_readNumber_75 : decode cX7_readNumber 75 = .ok (.iload 4, 2) := by decide +kernel
theorem dX7_readNumber_77 : decode cX7_readNumber 77 = .ok (.iastore, 1) := by decide +kernel
theorem dX7_readNumber_78 : decode cX7_readNumber 78 = .ok (.iload_n 3, 1) := by decide +kernel
theorem dX7_readNumber_79 : decode cX7_readNumber 79 = .ok (.ireturn, 1) := by decide +kernel
theorem dX7_byteAt_0 : decode cX7_byteAt 0 = .ok (.iload_n 1, 1) := by decide +kernel
theorem dX7_byteAt_1 : decode cX7_byteAt 1 = .ok (.ifCond .lt 24, 3) := by decide +kernel
theorem dX7_byteAt_4 : decode cX7_byteAt 4 = .ok (.iload_n 1, 1) := by decide +kernel
theorem dX7_byteAt_5 : decode cX7_byteAt 5 = .ok (.aload_n 0, 1) := by decide +kernel
theorem dX7_byteAt_6 : decode cX7_byteAt 6 = .ok (.getfield 19, 3) := by decide +kernel
theorem dX7_byteAt_9 : decode cX7_byteAt 9 = .ok (.if_icmp .ge 16, 3) := by decide +kernel
theorem dX7_byteAt_12 : decode cX7_byteAt 12 = .ok (.aload_n 0, 1) := by decide +kernel
theorem dX7_byteAt_13 : decode cX7_byteAt 13 = .ok (.getfield 9, 3) := by decide +kernel
theorem dX7_byteAt_16 : decode cX7_byteAt 16 = .ok (.iload_n 1, 1) := by decide +kernel
theorem dX7_byteAt_17 : decode cX7_byteAt 17 = .ok (.baload, 1) := by decide +kernel
theorem dX7_byteAt_18 : decode cX7_byteAt 18 = .ok (.sipush 255, 3) := by decide +kernel
theorem dX7_byteAt_21 : decode cX7_byteAt 21 = .ok (.iand, 1) := by decide +kernel
theorem dX7_byteAt_22 : decode cX7_byteAt 22 = .ok (.goto 4, 3) := by decide +kernel
theorem dX7_byteAt_25 : decode cX7_byteAt 25 = .ok (.iconst (-1), 1) := by decide +kernel
theorem dX7_byteAt_26 : decode cX7_byteAt 26 = .ok (.ireturn, 1) := by decide +kernel
end
section
/-! each instruction, decoded -/
theorem dX8_init_0 : decode cX8_init 0 = .ok (.aload_n 0, 1) := by decide +kernel
theorem dX8_init_1 : decode cX8_init 1 = .ok (.invokespecial 1, 3) := by decide +kernel
theorem dX8_init_4 : decode cX8_init 4 = .ok (.aload_n 0, 1) := by decide +kernel
theorem dX8_init_5 : decode cX8_init 5 = .ok (.new 7, 3) := by decide +kernel
theorem dX8_init_8 : decode cX8_init 8 = .ok (.dup, 1) := by decide +kernel
theorem dX8_init_9 : decode cX8_init 9 = .ok (.invokespecial 9, 3) := by decide +kernel
theorem dX8_init_12 : decode cX8_init 12 = .ok (.putfield 10, 3) := by decide +kernel
theorem dX8_init_15 : decode cX8_init 15 = .ok (.aload_n 0, 1) := by decide +kernel
theorem dX8_init_16 : decode cX8_init 16 = .ok (.new 16, 3) := by decide +kernel
theorem dX8_init_19 : decode cX8_init 19 = .ok (.dup, 1) := by decide +kernel
theorem dX8_init_20 : decode cX8_init 20 = .ok (.invokespecial 18, 3) := by decide +kernel
theorem dX8_init_23 : decode cX8_init 23 = .ok (.putfield 19, 3) := by decide +kernel
theorem dX8_init_26 : decode cX8_init 26 = .ok (.aload_n 0, 1) := by decide +kernel
theorem dX8_init_27 : decode cX8_init 27 = .ok (.new 23, 3) := by decide +kernel
theorem dX8_init_30 : decode cX8_init 30 = .ok (.dup, 1) := by decide +kernel
theorem dX8_init_31 : decode cX8_init 31 = .ok (.bipush 8, 2) := by decide +kernel
theorem dX8_init_33 : decode cX8_init 33 = .ok (.invokespecial 25, 3) := by decide +kernel
theorem dX8_init_36 : decode cX8_init 36 = .ok (.putfield 28, 3) := by decide +kernel
theorem dX8_init_39 : decode cX8_init 39 = .ok (.aload_n 0, 1) := by decide +kernel
theorem dX8_init_40 : decode cX8_init 40 = .ok (.new 23, 3) := by decide +kernel
theorem dX8_init_43 : decode cX8_init 43 = .ok (.dup, 1) := by decide +kernel
theorem dX8_init_44 : decode cX8_init 44 = .ok (.iconst 2, 1) := by decide +kernel
theorem dX8_init_45 : decode cX8_init 45 = .ok (.invokespecial 25, 3) := by decide +kernel
theorem dX8_init_48 : decode cX8_init 48 = .ok (.putfield 32, 3) := by decide +kernel
theorem dX8_init_51 : decode cX8_init 51 = .ok (.aload_n 0, 1) := by decide +kernel
theorem dX8_init_52 : decode cX8_init 52 = .ok (.new 35, 3) := by decide +kernel
theorem dX8_init_55 : decode cX8_init 55 = .ok (.dup, 1) := by decide +kernel
theorem dX8_init_56 : decode cX8_init 56 = .ok (.invokespecial 37, 3) := by decide +kernel
theorem dX8_init_59 : decode cX8_init 59 = .ok (.putfield 38, 3) := by decide +kernel
theorem dX8_init_62 : decode cX8_init 62 = .ok (.aload_n 0, 1) := by decide +kernel
theorem dX8_init_63 : decode cX8_init 63 = .ok (.new 42, 3) := by decide +kernel
theorem dX8_init_66 : decode cX8_init 66 = .ok (.dup, 1) := by decide +kernel
theorem dX8_init_67 : decode cX8_init 67 = .ok (.invokespecial 44, 3) := by decide +kernel
theorem dX8_init_70 : decode cX8_init 70 = .ok (.putfield 45, 3) := by decide +kernel
theorem dX8_init_73 : decode cX8_init 73 = .ok (.aload_n 0, 1) := by decide +kernel
theorem dX8_init_74 : decode cX8_init 74 = .ok (.new 49, 3) := by decide +kernel
theorem dX8_init_77 : decode cX8_init 77 = .ok (.dup, 1) := by decide +kernel
theorem dX8_init_78 : decode cX8_init 78 = .ok (.invokespecial 51, 3) := by decide +kernel
theorem dX8_init_81 : decode cX8_init 81 = .ok (.putfield 52, 3) := by decide +kernel
theorem dX8_init_84 : decode cX8_init 84 = .ok (.aload_n 0, 1) := by decide +kernel
theorem dX8_init_85 : decode cX8_init 85 = .ok (.new 56, 3) := by decide +kernel
theorem dX8_init_88 : decode cX8_init 88 = .ok (.dup, 1) := by decide +kernel
theorem dX8_init_89 : decode cX8_init 89 = .ok (.invokespecial 58, 3) := by decide +kernel
theorem dX8_init_92 : decode cX8_init 92 = .ok (.putfield 59, 3) := by decide +kernel
theorem dX8_init_95 : decode cX8_init 95 = .ok (.aload_n 0, 1) := by decide +kernel
theorem dX8_init_96 : decode cX8_init 96 = .ok (.bipush 7, 2) := by decide +kernel
theorem dX8_init_98 : decode cX8_init 98 = .ok (.newarray .int, 2) := by decide +kernel
theorem dX8_init_100 : decode cX8_init 100 = .ok (.putfield 63, 3) := by decide +kernel
theorem dX8_init_103 : decode cX8_init 103 = .ok (.aload_n 0, 1) := by decide +kernel
theorem dX8_init_104 : decode cX8_init 104 = .ok (.bipush 7, 2) := by decide +kernel
theorem dX8_init_106 : decode cX8_init 106 = .ok (.newarray .int, 2) := by decide +kernel
theorem dX8_init_108 : decode cX8_init 108 = .ok (.putfield 67, 3) := by decide +kernel
theorem dX8_init_111 : decode cX8_init 111 = .ok (.aload_n 0, 1) := by decide +kernel
theorem dX8_init_112 : decode cX8_init 112 = .ok (.bipush 7, 2) := by decide +kernel
theorem dX8_init_114 : decode cX8_init 114 = .ok (.newarray .int, 2) := by decide +kernel
theorem dX8_init_116 : decode cX8_init 116 = .ok (.putfield 70, 3) := by decide +kernel
theorem dX8_init_119 : decode cX8_init 119 = .ok (.aload_n 0, 1) := by decide +kernel
theorem dX8_init_120 : decode cX8_init 120 = .ok (.bipush 7, 2) := by decide +kernel
theorem dX8_init_122 : decode cX8_init 122 = .ok (.newarray .int, 2) := by decide +kernel
theorem dX8_init_124 : decode cX8_init 124 = .ok (.putfield 73, 3) := by decide +kernel
theorem dX8_init_127 : decode cX8_init 127 = .ok (.aload_n 0, 1) := by decide +kernel
theorem dX8_init_128 : decode cX8_init 128 = .ok (.new 76, 3) := by decide +kernel
theorem dX8_init_131 : decode cX8_init 131 = .ok (.dup, 1) := by decide +kernel
theorem dX8_init_132 : decode cX8_init 132 = .ok (.invokespecial 78, 3) := by decide +kernel
theorem dX8_init_135 : decode cX8_init 135 = .ok (.putfield 79, 3) := by decide +kernel
theorem dX8_init_138 : decode cX8_init 138 = .ok (.aload_n 0, 1) := by decide +kernel
theorem dX8_init_139 : decode cX8_init 139 = .ok (.new 76, 3) := by decide +kernel
theorem dX8_init_142 : decode cX8_init 142 = .ok (.dup, 1) := by decide +kernel
theorem dX8_init_143 : decode cX8_init 143 = .ok (.invokespecial 78, 3) := by decide +kernel
theorem dX8_init_146 : decode cX8_init 146 = .ok (.putfield 83, 3) := by decide +kernel
theorem dX8_init_149 : decode cX8_init 149 = .ok (.iconst 0, 1) := by decide +kernel
theorem dX8_init_150 : decode cX8_init 150 = .ok (.istore_n 1, 1) := by decide +kernel
theorem dX8_init_151 : decode cX8_init 151 = .ok (.iload_n 1, 1) := by decide +kernel
theorem dX8_init_152 : decode cX8_init 152 = .ok (.ldc 86, 2) := by decide +kernel
theorem dX8_init_154 : decode cX8_init 154 = .ok (.invokevirtual 88, 3) := by decide +kernel
theorem dX8_init_157 : decode cX8_init 157 = .ok (.if_icmp .ge 22, 3) := by decide +kernel
theorem dX8_init_160 : decode cX8_init 160 = .ok (.aload_n 0, 1) := by decide +kernel
theorem dX8_init_161 : decode cX8_init 161 = .ok (.getfield 10, 3) := by decide +kernel
theorem dX8_init_164 : decode cX8_init 164 = .ok (.ldc 86, 2) := by decide +kernel
theorem dX8_init_166 : decode cX8_init 166 = .ok (.iload_n 1, 1) := by decide +kernel
theorem dX8_init_167 : decode cX8_init 167 = .ok (.invokevirtual 94, 3) := by decide +kernel
theorem dX8_init_170 : decode cX8_init 170 = .ok (.invokevirtual 98, 3) := by decide +kernel
theorem dX8_init_173 : decode cX8_init 173 = .ok (.iinc 1 1, 3) := by decide +kernel
theorem dX8_init_176 : decode cX8_init 176 = .ok (.goto (-25), 3) := by decide +kernel
theorem dX8_init_179 : decode cX8_init 179 = .ok (.aload_n 0, 1) := by decide +kernel
theorem dX8_init_180 : decode cX8_init 180 = .ok (.getfield 10, 3) := by decide +kernel
theorem dX8_init_183 : decode cX8_init 183 = .ok (.aload_n 0, 1) := by decide +kernel
theorem dX8_init_184 : decode cX8_init 184 = .ok (.getfield 79, 3) := by decide +kernel
theorem dX8_init_187 : decode cX8_init 187 = .ok (.invokevirtual 101, 3) := by decide +kernel
theorem dX8_init_190 : decode cX8_init 190 = .ok (.pop, 1) := by decide +kernel
theorem dX8_init_191 : decode cX8_init 191 = .ok (.aload_n 0, 1) := by decide +kernel
theorem dX8_init_192 : decode cX8_init 192 = .ok (.getfield 10, 3) := by decide +kernel
theorem dX8_init_195 : decode cX8_init 195 = .ok (.iconst 0, 1) := by decide +kernel
theorem dX8_init_196 : decode cX8_init 196 = .ok (.putfield 105, 3) := by decide +kernel
theorem dX8_init_199 : decode cX8_init 199 = .ok (.return_, 1) := by decide +kernel
theorem dX8_write_0 : decode cX8_write 0 = .ok (.iload_n 1, 1) := by decide +kernel
theorem dX8_write_1 : decode cX8_write 1 = .ok (.iconst 1, 1) := by decide +kernel
theorem dX8_write_2 : decode cX8_write 2 = .ok (.if_icmp .lt 9, 3) := by decide +kernel
theorem dX8_write_5 : decode cX8_write 5 = .ok (.iload_n 1, 1) := by decide +kernel
theorem dX8_write_6 : decode cX8_write 6 = .ok (.bipush 8, 2) := by decide +kernel
theorem dX8_write_8 : decode cX8_write 8 = .ok (.if_icmp .le 5, 3) := by decide +kernel
theorem dX8_write_11 : decode cX8_write 11 = .ok (.iconst (-1), 1) := by decide +kernel
theorem dX8_write_12 : decode cX8_write 12 = .ok (.ireturn, 1) := by decide +kernel
theorem dX8_write_13 : decode cX8_write 13 = .ok (.aload_n 0, 1) := by decide +kernel
theorem dX8_write_14 : decode cX8_write 14 = .ok (.getfield 10, 3) := by decide +kernel
theorem dX8_write_17 : decode cX8_write 17 = .ok (.getfield 105, 3) := by decide +kernel
theorem dX8_write_20 : decode cX8_write 20 = .ok (.iload_n 1, 1) := by decide +kernel
theorem dX8_write_21 : decode cX8_write 21 = .ok (.iadd, 1) := by decide +kernel
theorem dX8_write_22 : decode cX8_write 22 = .ok (.sipush 300, 3) := by decide +kernel
theorem dX8_write_25 : decode cX8_write 25 = .ok (.if_icmp .le 6, 3) := by decide +kernel
theorem dX8_write_28 : decode cX8_write 28 = .ok (.bipush (-3), 2) := by decide +kernel
theorem dX8_write_30 : decode cX8_write 30 = .ok (.ireturn, 1) := by decide +kernel
theorem dX8_write_31 : decode cX8_write 31 = .ok (.iload_n 1, 1) := by decide +kernel
theorem dX8_write_32 : decode cX8_write 32 = .ok (.iconst 1, 1) := by decide +kernel
theorem dX8_write_33 : decode cX8_write 33 = .ok (.isub, 1) := by decide +kernel
theorem dX8_write_34 : decode cX8_write 34 = .ok (.istore 4, 2) := by decide +kernel
theorem dX8_write_36 : decode cX8_write 36 = .ok (.iload 4, 2) := by decide +kernel
theorem dX8_write_38 : decode cX8_write 38 = .ok (.ifCond .lt 24, 3) := by decide +kernel
theorem dX8_write_41 : decode cX8_write 41 = .ok (.aload_n 0, 1) := by decide +kernel
theorem dX8_write_42 : decode cX8_write 42 = .ok (.getfield 10, 3) := by decide +kernel
theorem dX8_write_45 : decode cX8_write 45 = .ok (.lload_n 2, 1) := by decide +kernel
theorem dX8_write_46 : decode cX8_write 46 = .ok (.bipush 8, 2) := by decide +kernel
theorem dX8_write_48 : decode cX8_write 48 = .ok (.iload 4, 2) := by decide +kernel
theorem dX8_write_50 : decode cX8_write 50 = .ok (.imul, 1) := by decide +kernel
theorem dX8_write_51 : decode cX8_write 51 = .ok (.lushr, 1) := by decide +kernel
theorem dX8_write_52 : decode cX8_write 52 = .ok (.l2i, 1) := by decide +kernel
theorem dX8_write_53 : decode cX8_write 53 = .ok (.invokevirtual 98, 3) := by decide +kernel
theorem dX8_write_56 : decode cX8_write 56 = .ok (.iinc 4 (-1), 3) := by decide +kernel
theorem dX8_write_59 : decode cX8_write 59 = .ok (.goto (-23), 3) := by decide +kernel
theorem dX8_write_62 : decode cX8_write 62 = .ok (.aload_n 0, 1) := by decide +kernel
theorem dX8_write_63 : decode cX8_write 63 = .ok (.getfield 10, 3) := by decide +kernel
theorem dX8_write_66 : decode cX8_write 66 = .ok (.getfield 105, 3) := by decide +kernel
theorem dX8_write_69 : decode cX8_write 69 = .ok (.ireturn, 1) := by decide +kernel
theorem dX8_wipe_0 : decode cX8_wipe 0 = .ok (.aload_n 0, 1) := by decide +kernel
theorem dX8_wipe_1 : decode cX8_wipe 1 = .ok (.getfield 10, 3) := by decide +kernel
theorem dX8_wipe_4 : decode cX8_wipe 4 = .ok (.getfield 105, 3) := by decide +kernel
theorem dX8_wipe_7 : decode cX8_wipe 7 = .ok (.istore_n 1, 1) := by decide +kernel
theorem dX8_wipe_8 : decode cX8_wipe 8 = .ok (.aload_n 0, 1) := by decide +kernel
theorem dX8_wipe_9 : decode cX8_wipe 9 = .ok (.getfield 10, 3) := by decide +kernel
theorem dX8_wipe_12 : decode cX8_wipe 12 = .ok (.iconst 0, 1) := by decide +kernel
theorem dX8_wipe_13 : decode cX8_wipe 13 = .ok (.putfield 105, 3) := by decide +kernel
theorem dX8_wipe_16 : decode cX8_wipe 16 = .ok (.iload_n 1, 1) := by decide +kernel
theorem dX8_wipe_17 : decode cX8_wipe 17 = .ok (.ireturn, 1) := by decide +kernel
theorem dX8_fault_0 : decode cX8_fault 0 = .ok (.aload_n 0, 1) := by decide +kernel
theorem dX8_fault_1 : decode cX8_fault 1 = .ok (.getfield 10, 3) := by decide +kernel
theorem dX8_fault_4 : decode cX8_fault 4 = .ok (.aload_n 0, 1) := by decide +kernel
theorem dX8_fault_5 : decode cX8_fault 5 = .ok (.getfield 83, 3) := by decide +kernel
theorem dX8_fault_8 : decode cX8_fault 8 = .ok (.invokevirtual 101, 3) := by decide +kernel
theorem dX8_fault_11 : decode cX8_fault 11 = .ok (.ireturn, 1) := by decide +kernel
theorem dX8_lay_0 : decode cX8_lay 0 = .ok (.aload_n 0, 1) := by decide +kernel
theorem dX8_lay_1 : decode cX8_lay 1 = .ok (.getfield 10, 3) := by decide +kernel
theorem dX8_lay_4 : decode cX8_lay 4 = .ok (.aload_n 0, 1) := by decide +kernel
theorem dX8_lay_5 : decode cX8_lay 5 = .ok (.getfield 83, 3) := by decide +kernel
theorem dX8_lay_8 : decode cX8_lay 8 = .ok (.invokevirtual 101, 3) := by decide +kernel
theorem dX8_lay_11 : decode cX8_lay 11 = .ok (.bipush (-4), 2) := by decide +kernel
theorem dX8_lay_13 : decode cX8_lay 13 = .ok (.if_icmp .ne 13, 3) := by decide +kernel
theorem dX8_lay_16 : decode cX8_lay 16 = .ok (.aload_n 0, 1) := by decide +kernel
theorem dX8_lay_17 : decode cX8_lay 17 = .ok (.getfield 83, 3) := by decide +kernel
theorem dX8_lay_20 : decode cX8_lay 20 = .ok (.getfield 108, 3) := by decide +kernel
theorem dX8_lay_23 : decode cX8_lay 23 = .ok (.ifCond .ne 6, 3) := by decide +kernel
theorem dX8_lay_26 : decode cX8_lay 26 = .ok (.bipush (-2), 2) := by decide +kernel
theorem dX8_lay_28 : decode cX8_lay 28 = .ok (.ireturn, 1) := by decide +kernel
theorem dX8_lay_29 : decode cX8_lay 29 = .ok (.aload_n 0, 1) := by decide +kernel
theorem dX8_lay_30 : decode cX8_lay 30 = .ok (.getfield 79, 3) := by decide +kernel
theorem dX8_lay_33 : decode cX8_lay 33 = .ok (.astore_n 1, 1) := by decide +kernel
theorem dX8_lay_34 : decode cX8_lay 34 = .ok (.aload_n 0, 1) := by decide +kernel
theorem dX8_lay_35 : decode cX8_lay 35 = .ok (.aload_n 0, 1) := by decide +kernel
theorem dX8_lay_36 : decode cX8_lay 36 = .ok (.getfield 83, 3) := by decide +kernel
theorem dX8_lay_39 : decode cX8_lay 39 = .ok (.putfield 79, 3) := by decide +kernel
theorem dX8_lay_42 : decode cX8_lay 42 = .ok (.aload_n 0, 1) := by decide +kernel
theorem dX8_lay_43 : decode cX8_lay 43 = .ok (.aload_n 1, 1) := by decide +kernel
theorem dX8_lay_44 : decode cX8_lay 44 = .ok (.putfield 83, 3) := by decide +kernel
theorem dX8_lay_47 : decode cX8_lay 47 = .ok (.aload_n 0, 1) := by decide +kernel
theorem dX8_lay_48 : decode cX8_lay 48 = .ok (.getfield 19, 3) := by decide +kernel
theorem dX8_lay_51 : decode cX8_lay 51 = .ok (.invokevirtual 111, 3) := by decide +kernel
theorem dX8_lay_54 : decode cX8_lay 54 = .ok (.aload_n 0, 1) := by decide +kernel
theorem dX8_lay_55 : decode cX8_lay 55 = .ok (.getfield 28, 3) := by decide +kernel
theorem dX8_lay_58 : decode cX8_lay 58 = .ok (.invokevirtual 114, 3) := by decide +kernel
theorem dX8_lay_61 : decode cX8_lay 61 = .ok (.aload_n 0, 1) := by decide +kernel
theorem dX8_lay_62 : decode cX8_lay 62 = .ok (.getfield 32, 3) := by decide +kernel
theorem dX8_lay_65 : decode cX8_lay 65 = .ok (.invokevirtual 114, 3) := by decide +kernel
theorem dX8_lay_68 : decode cX8_lay 68 = .ok (.aload_n 0, 1) := by decide +kernel
theorem dX8_lay_69 : decode cX8_lay 69 = .ok (.getfield 38, 3) := by decide +kernel
theorem dX8_lay_72 : decode cX8_lay 72 = .ok (.iconst 0, 1) := by decide +kernel
theorem dX8_lay_73 : decode cX8_lay 73 = .ok (.putfield 117, 3) := by decide +kernel
theorem dX8_lay_76 : decode cX8_lay 76 = .ok (.aload_n 0, 1) := by decide +kernel
theorem dX8_lay_77 : decode cX8_lay 77 = .ok (.getfield 45, 3) := by decide +kernel
theorem dX8_lay_80 : decode cX8_lay 80 = .ok (.iconst 0, 1) := by decide +kernel
theorem dX8_lay_81 : decode cX8_lay 81 = .ok (.putfield 120, 3) := by decide +kernel
theorem dX8_lay_84 : decode cX8_lay 84 = .ok (.aload_n 0, 1) := by decide +kernel
theorem dX8_lay_85 : decode cX8_lay 85 = .ok (.getfield 52, 3) := by decide +kernel
theorem dX8_lay_88 : decode cX8_lay 88 = .ok (.iconst 0, 1) := by decide +kernel
theorem dX8_lay_89 : decode cX8_lay 89 = .ok (.putfield 121, 3) := by decide +kernel
theorem dX8_lay_92 : decode cX8_lay 92 = .ok (.aload_n 0, 1) := by decide +kernel
theorem dX8_lay_93 : decode cX8_lay 93 = .ok (.getfield 79, 3) := by decide +kernel
theorem dX8_lay_96 : decode cX8_lay 96 = .ok (.getfield 108, 3) := by decide +kernel
theorem dX8_lay_99 : decode cX8_lay 99 = .ok (.ireturn, 1) := by decide +kernel
theorem dX8_part_0 : decode cX8_part 0 = .ok (.aload_n 0, 1) := by decide +kernel
theorem dX8_part_1 : decode cX8_part 1 = .ok (.getfield 79, 3) := by decide +kernel
theorem dX8_part_4 : decode cX8_part 4 = .ok (.iload_n 1, 1) := by decide +kernel
theorem dX8_part_5 : decode cX8_part 5 = .ok (.invokevirtual 125, 3) := by decide +kernel
theorem dX8_part_8 : decode cX8_part 8 = .ok (.ifCond .ne 5, 3) := by decide +kernel
theorem dX8_part_11 : decode cX8_part 11 = .ok (.iconst (-1), 1) := by decide +kernel
theorem dX8_part_12 : decode cX8_part 12 = .ok (.ireturn, 1) := by decide +kernel
theorem dX8_part_13 : decode cX8_part 13 = .ok (.iload_n 2, 1) := by decide +kernel
theorem dX8_part_14 : decode cX8_part 14 = .ok (.tableswitch 110 0 6 #[42, 52, 62, 72, 81, 90, 104], 42) := by decide +kernel
theorem dX8_part_56 : decode cX8_part 56 = .ok (.aload_n 0, 1) := by decide +kernel
theorem dX8_part_57 : decode cX8_part 57 = .ok (.getfield 79, 3) := by decide +kernel
theorem dX8_part_60 : decode cX8_part 60 = .ok (.getfield 129, 3) := by decide +kernel
theorem dX8_part_63 : decode cX8_part 63 = .ok (.iload_n 1, 1) := by decide +kernel
theorem dX8_part_64 : decode cX8_part 64 = .ok (.iaload, 1) := by decide +kernel
theorem dX8_part_65 : decode cX8_part 65 = .ok (.ireturn, 1) := by decide +kernel
theorem dX8_part_66 : decode cX8_part 66 = .ok (.aload_n 0, 1) := by decide +kernel
theorem dX8_part_67 : decode cX8_part 67 = .ok (.getfield 79, 3) := by decide +kernel
theorem dX8_part_70 : decode cX8_part 70 = .ok (.getfield 132, 3) := by decide +kernel
theorem dX8_part_73 : decode cX8_part 73 = .ok (.iload_n 1, 1) := by decide +kernel
theorem dX8_part_74 : decode cX8_part 74 = .ok (.iaload, 1) := by decide +kernel
theorem dX8_part_75 : decode cX8_part 75 = .ok (.ireturn, 1) := by decide +kernel
theorem dX8_part_76 : decode cX8_part 76 = .ok (.aload_n 0, 1) := by decide +kernel
theorem dX8_part_77 : decode cX8_part 77 = .ok (.getfield 79, 3) := by decide +kernel
theorem dX8_part_80 : decode cX8_part 80 = .ok (.getfield 135, 3) := by decide +kernel
theorem dX8_part_83 : decode cX8_part 83 = .ok (.iload_n 1, 1) := by decide +kernel
theorem dX8_part_84 : decode cX8_part 84 = .ok (.iaload, 1) := by decide +kernel
theorem dX8_part_85 : decode cX8_part 85 = .ok (.ireturn, 1) := by decide +kernel
theorem dX8_part_86 : decode cX8_part 86 = .ok (.aload_n 0, 1) := by decide +kernel
theorem dX8_part_87 : decode cX8_part 87 = .ok (.getfield 19, 3) := by decide +kernel
theorem dX8_part_90 : decode cX8_part 90 = .ok (.iload_n 1, 1) := by decide +kernel
theorem dX8_part_91 : decode cX8_part 91 = .ok (.invokevirtual 138, 3) := by decide +kernel
theorem dX8_part_94 : decode cX8_part 94 = .ok (.ireturn, 1) := by decide +kernel
theorem dX8_part_95 : decode cX8_part 95 = .ok (.aload_n 0, 1) := by decide +kernel
theorem dX8_part_96 : decode cX8_part 96 = .ok (.iload_n 1, 1) := by decide +kernel
theorem dX8_part_97 : decode cX8_part 97 = .ok (.invokevirtual 142, 3) := by decide +kernel
theorem dX8_part_100 : decode cX8_part 100 = .ok (.bipush 100, 2) := by decide +kernel
theorem dX8_part_102 : decode cX8_part 102 = .ok (.iadd, 1) := by decide +kernel
theorem dX8_part_103 : decode cX8_part 103 = .ok (.ireturn, 1) := by decide +kernel
theorem dX8_part_104 : decode cX8_part 104 = .ok (.aload_n 0, 1) := by decide +kernel
theorem dX8_part_105 : decode cX8_part 105 = .ok (.getfield 79, 3) := by decide +kernel
theorem dX8_part_108 : decode cX8_part 108 = .ok (.iload_n 1, 1) := by decide +kernel
theorem dX8_part_109 : decode cX8_part 109 = .ok (.aload_n 0, 1) := by decide +kernel
theorem dX8_part_110 : decode cX8_part 110 = .ok (.iload_n 1, 1) := by decide +kernel
theorem dX8_part_111 : decode cX8_part 111 = .ok (.invokevirtual 142, 3) := by decide +kernel
theorem dX8_part_114 : decode cX8_part 114 = .ok (.invokevirtual 145, 3) := by decide +kernel
theorem dX8_part_117 : decode cX8_part 117 = .ok (.ireturn, 1) := by decide +kernel
theorem dX8_part_118 : decode cX8_part 118 = .ok (.aload_n 0, 1) := by decide +kernel
theorem dX8_part_119 : decode cX8_part 119 = .ok (.iload_n 1, 1) := by decide +kernel
theorem dX8_part_120 : decode cX8_part 120 = .ok (.invokevirtual 149, 3) := by decide +kernel
theorem dX8_part_123 : decode cX8_part 123 = .ok (.ireturn, 1) := by decide +kernel
theorem dX8_part_124 : decode cX8_part 124 = .ok (.iconst (-1), 1) := by decide +kernel
theorem dX8_part_125 : decode cX8_part 125 = .ok (.ireturn, 1) := by decide +kernel
theorem dX8_gap_0 : decode cX8_gap 0 = .ok (.iload_n 1, 1) := by decide +kernel
theorem dX8_gap_1 : decode cX8_gap 1 = .ok (.iconst (-1), 1) := by decide +kernel
theorem dX8_gap_2 : decode cX8_gap 2 = .ok (.if_icmp .eq 16, 3) := by decide +kernel
theorem dX8_gap_5 : decode cX8_gap 5 = .ok (.aload_n 0, 1) := by decide +kernel
theorem dX8_gap_6 : decode cX8_gap 6 = .ok (.getfield 79, 3) := by decide +kernel
theorem dX8_gap_9 : decode cX8_gap 9 = .ok (.iload_n 1, 1) := by decide +kernel
theorem dX8_gap_10 : decode cX8_gap 10 = .ok (.invokevirtual 152, 3) := by decide +kernel
theorem dX8_gap_13 : decode cX8_gap 13 = .ok (.ifCond .ne 5, 3) := by decide +kernel
theorem dX8_gap_16 : decode cX8_gap 16 = .ok (.iconst (-1), 1) := by decide +kernel
theorem dX8_gap_17 : decode cX8_gap 17 = .ok (.ireturn, 1) := by decide +kernel
theorem dX8_gap_18 : decode cX8_gap 18 = .ok (.aload_n 0, 1) := by decide +kernel
theorem dX8_gap_19 : decode cX8_gap 19 = .ok (.invokevirtual 155, 3) := by decide +kernel
theorem dX8_gap_22 : decode cX8_gap 22 = .ok (.iload_n 1, 1) := by decide +kernel
theorem dX8_gap_23 : decode cX8_gap 23 = .ok (.iconst (-1), 1) := by decide +kernel
theorem dX8_gap_24 : decode cX8_gap 24 = .ok (.if_icmp .ne 17, 3) := by decide +kernel
theorem dX8_gap_27 : decode cX8_gap 27 = .ok (.aload_n 0, 1) := by decide +kernel
theorem dX8_gap_28 : decode cX8_gap 28 = .ok (.getfield 79, 3) := by decide +kernel
theorem dX8_gap_31 : decode cX8_gap 31 = .ok (.aload_n 0, 1) := by decide +kernel
theorem dX8_gap_32 : decode cX8_gap 32 = .ok (.getfield 63, 3) := by decide +kernel
theorem dX8_gap_35 : decode cX8_gap 35 = .ok (.invokevirtual 158, 3) := by decide +kernel
theorem dX8_gap_38 : decode cX8_gap 38 = .ok (.goto 15, 3) := by decide +kernel
theorem dX8_gap_41 : decode cX8_gap 41 = .ok (.aload_n 0, 1) := by decide +kernel
theorem dX8_gap_42 : decode cX8_gap 42 = .ok (.getfield 79, 3) := by decide +kernel
theorem dX8_gap_45 : decode cX8_gap 45 = .ok (.iload_n 1, 1) := by decide +kernel
theorem dX8_gap_46 : decode cX8_gap 46 = .ok (.aload_n 0, 1) := by decide +kernel
theorem dX8_gap_47 : decode cX8_gap 47 = .ok (.getfield 63, 3) := by decide +kernel
theorem dX8_gap_50 : decode cX8_gap 50 = .ok (.invokevirtual 162, 3) := by decide +kernel
theorem dX8_gap_53 : decode cX8_gap 53 = .ok (.ireturn, 1) := by decide +kernel
theorem dX8_closes_0 : decode cX8_closes 0 = .ok (.aload_n 0, 1) := by decide +kernel
theorem dX8_closes_1 : decode cX8_closes 1 = .ok (.invokevirtual 155, 3) := by decide +kernel
theorem dX8_closes_4 : decode cX8_closes 4 = .ok (.aload_n 0, 1) := by decide +kernel
theorem dX8_closes_5 : decode cX8_closes 5 = .ok (.getfield 79, 3) := by decide +kernel
theorem dX8_closes_8 : decode cX8_closes 8 = .ok (.aload_n 0, 1) := by decide +kernel
theorem dX8_closes_9 : decode cX8_closes 9 = .ok (.getfield 63, 3) := by decide +kernel
theorem dX8_closes_12 : decode cX8_closes 12 = .ok (.invokevirtual 166, 3) := by decide +kernel
theorem dX8_closes_15 : decode cX8_closes 15 = .ok (.ifCond .eq 7, 3) := by decide +kernel
theorem dX8_closes_18 : decode cX8_closes 18 = .ok (.iconst 1, 1) := by decide +kernel
theorem dX8_closes_19 : decode cX8_closes 19 = .ok (.goto 4, 3) := by decide +kernel
theorem dX8_closes_22 : decode cX8_closes 22 = .ok (.iconst 0, 1) := by decide +kernel
theorem dX8_closes_23 : decode cX8_closes 23 = .ok (.ireturn, 1) := by decide +kernel
theorem dX8_change_0 : decode cX8_change 0 = .ok (.aload_n 0, 1) := by decide +kernel
theorem dX8_change_1 : decode cX8_change 1 = .ok (.getfield 79, 3) := by decide +kernel
theorem dX8_change_4 : decode cX8_change 4 = .ok (.iload_n 1, 1) := by decide +kernel
theorem dX8_change_5 : decode cX8_change 5 = .ok (.invokevirtual 125, 3) := by decide +kernel
theorem dX8_change_8 : decode cX8_change 8 = .ok (.ifCond .eq 19, 3) := by decide +kernel
theorem dX8_change_11 : decode cX8_change 11 = .ok (.aload_n 0, 1) := by decide +kernel
theorem dX8_change_12 : decode cX8_change 12 = .ok (.getfield 79, 3) := by decide +kernel
theorem dX8_change_15 : decode cX8_change 15 = .ok (.iload_n 2, 1) := by decide +kernel
theorem dX8_change_16 : decode cX8_change 16 = .ok (.invokevirtual 125, 3) := by decide +kernel
theorem dX8_change_19 : decode cX8_change 19 = .ok (.ifCond .eq 8, 3) := by decide +kernel
theorem dX8_change_22 : decode cX8_change 22 = .ok (.iload_n 1, 1) := by decide +kernel
theorem dX8_change_23 : decode cX8_change 23 = .ok (.iload_n 2, 1) := by decide +kernel
theorem dX8_change_24 : decode cX8_change 24 = .ok (.if_icmp .ne 5, 3) := by decide +kernel
theorem dX8_change_27 : decode cX8_change 27 = .ok (.iconst (-1), 1) := by decide +kernel
theorem dX8_change_28 : decode cX8_change 28 = .ok (.ireturn, 1) := by decide +kernel
theorem dX8_change_29 : decode cX8_change 29 = .ok (.aload_n 0, 1) := by decide +kernel
theorem dX8_change_30 : decode cX8_change 30 = .ok (.getfield 28, 3) := by decide +kernel
theorem dX8_change_33 : decode cX8_change 33 = .ok (.aload_n 0, 1) := by decide +kernel
theorem dX8_change_34 : decode cX8_change 34 = .ok (.getfield 19, 3) := by decide +kernel
theorem dX8_change_37 : decode cX8_change 37 = .ok (.invokevirtual 170, 3) := by decide +kernel
theorem dX8_change_40 : decode cX8_change 40 = .ok (.aload_n 0, 1) := by decide +kernel
theorem dX8_change_41 : decode cX8_change 41 = .ok (.getfield 19, 3) := by decide +kernel
theorem dX8_change_44 : decode cX8_change 44 = .ok (.iload_n 1, 1) := by decide +kernel
theorem dX8_change_45 : decode cX8_change 45 = .ok (.iload_n 2, 1) := by decide +kernel
theorem dX8_change_46 : decode cX8_change 46 = .ok (.invokevirtual 174, 3) := by decide +kernel
theorem dX8_change_49 : decode cX8_change 49 = .ok (.aload_n 0, 1) := by decide +kernel
theorem dX8_change_50 : decode cX8_change 50 = .ok (.invokevirtual 155, 3) := by decide +kernel
theorem dX8_change_53 : decode cX8_change 53 = .ok (.aload_n 0, 1) := by decide +kernel
theorem dX8_change_54 : decode cX8_change 54 = .ok (.getfield 79, 3) := by decide +kernel
theorem dX8_change_57 : decode cX8_change 57 = .ok (.aload_n 0, 1) := by decide +kernel
theorem dX8_change_58 : decode cX8_change 58 = .ok (.getfield 63, 3) := by decide +kernel
theorem dX8_change_61 : decode cX8_change 61 = .ok (.invokevirtual 158, 3) := by decide +kernel
theorem dX8_change_64 : decode cX8_change 64 = .ok (.ireturn, 1) := by decide +kernel
theorem dX8_alter_0 : decode cX8_alter 0 = .ok (.aload_n 0, 1) := by decide +kernel
theorem dX8_alter_1 : decode cX8_alter 1 = .ok (.getfield 79, 3) := by decide +kernel
theorem dX8_alter_4 : decode cX8_alter 4 = .ok (.iload_n 1, 1) := by decide +kernel
theorem dX8_alter_5 : decode cX8_alter 5 = .ok (.invokevirtual 125, 3) := by decide +kernel
theorem dX8_alter_8 : decode cX8_alter 8 = .ok (.ifCond .eq 15, 3) := by decide +kernel
theorem dX8_alter_11 : decode cX8_alter 11 = .ok (.iload_n 2, 1) := by decide +kernel
theorem dX8_alter_12 : decode cX8_alter 12 = .ok (.bipush (-9), 2) := by decide +kernel
theorem dX8_alter_14 : decode cX8_alter 14 = .ok (.if_icmp .lt 9, 3) := by decide +kernel
theorem dX8_alter_17 : decode cX8_alter 17 = .ok (.iload_n 2, 1) := by decide +kernel
theorem dX8_alter_18 : decode cX8_alter 18 = .ok (.bipush 9, 2) := by decide +kernel
theorem dX8_alter_20 : decode cX8_alter 20 = .ok (.if_icmp .le 5, 3) := by decide +kernel
theorem dX8_alter_23 : decode cX8_alter 23 = .ok (.iconst (-1), 1) := by decide +kernel
theorem dX8_alter_24 : decode cX8_alter 24 = .ok (.ireturn, 1) := by decide +kernel
theorem dX8_alter_25 : decode cX8_alter 25 = .ok (.aload_n 0, 1) := by decide +kernel
theorem dX8_alter_26 : decode cX8_alter 26 = .ok (.iload_n 1, 1) := by decide +kernel
theorem dX8_alter_27 : decode cX8_alter 27 = .ok (.invokevirtual 149, 3) := by decide +kernel
theorem dX8_alter_30 : decode cX8_alter 30 = .ok (.iload_n 2, 1) := by decide +kernel
theorem dX8_alter_31 : decode cX8_alter 31 = .ok (.iadd, 1) := by decide +kernel
theorem dX8_alter_32 : decode cX8_alter 32 = .ok (.istore_n 3, 1) := by decide +kernel
theorem dX8_alter_33 : decode cX8_alter 33 = .ok (.iload_n 3, 1) := by decide +kernel
theorem dX8_alter_34 : decode cX8_alter 34 = .ok (.iconst 1, 1) := by decide +kernel
theorem dX8_alter_35 : decode cX8_alter 35 = .ok (.if_icmp .lt 10, 3) := by decide +kernel
theorem dX8_alter_38 : decode cX8_alter 38 = .ok (.iload_n 3, 1) := by decide +kernel
theorem dX8_alter_39 : decode cX8_alter 39 = .ok (.sipush 299, 3) := by decide +kernel
theorem dX8_alter_42 : decode cX8_alter 42 = .ok (.if_icmp .le 6, 3) := by decide +kernel
theorem dX8_alter_45 : decode cX8_alter 45 = .ok (.bipush (-2), 2) := by decide +kernel
theorem dX8_alter_47 : decode cX8_alter 47 = .ok (.ireturn, 1) := by decide +kernel
theorem dX8_alter_48 : decode cX8_alter 48 = .ok (.aload_n 0, 1) := by decide +kernel
theorem dX8_alter_49 : decode cX8_alter 49 = .ok (.getfield 28, 3) := by decide +kernel
theorem dX8_alter_52 : decode cX8_alter 52 = .ok (.aload_n 0, 1) := by decide +kernel
theorem dX8_alter_53 : decode cX8_alter 53 = .ok (.getfield 19, 3) := by decide +kernel
theorem dX8_alter_56 : decode cX8_alter 56 = .ok (.invokevirtual 170, 3) := by decide +kernel
theorem dX8_alter_59 : decode cX8_alter 59 = .ok (.aload_n 0, 1) := by decide +kernel
theorem dX8_alter_60 : decode cX8_alter 60 = .ok (.getfield 19, 3) := by decide +kernel
theorem dX8_alter_63 : decode cX8_alter 63 = .ok (.getfield 178, 3) := by decide +kernel
theorem dX8_alter_66 : decode cX8_alter 66 = .ok (.iload_n 1, 1) := by decide +kernel
theorem dX8_alter_67 : decode cX8_alter 67 = .ok (.dup2, 1) := by decide +kernel
theorem dX8_alter_68 : decode cX8_alter 68 = .ok (.iaload, 1) := by decide +kernel
theorem dX8_alter_69 : decode cX8_alter 69 = .ok (.iload_n 2, 1) := by decide +kernel
theorem dX8_alter_70 : decode cX8_alter 70 = .ok (.iadd, 1) := by decide +kernel
theorem dX8_alter_71 : decode cX8_alter 71 = .ok (.iastore, 1) := by decide +kernel
theorem dX8_alter_72 : decode cX8_alter 72 = .ok (.iload_n 3, 1) := by decide +kernel
theorem dX8_alter_73 : decode cX8_alter 73 = .ok (.ireturn, 1) := by decide +kernel
theorem dX8_undo_0 : decode cX8_undo 0 = .ok (.aload_n 0, 1) := by decide +kernel
theorem dX8_undo_1 : decode cX8_undo 1 = .ok (.getfield 28, 3) := by decide +kernel
theorem dX8_undo_4 : decode cX8_undo 4 = .ok (.getfield 181, 3) := by decide +kernel
theorem dX8_undo_7 : decode cX8_undo 7 = .ok (.ifCond .ne 6, 3) := by decide +kernel
theorem dX8_undo_10 : decode cX8_undo 10 = .ok (.bipush (-2), 2) := by decide +kernel
theorem dX8_undo_12 : decode cX8_undo 12 = .ok (.ireturn, 1) := by decide +kernel
theorem dX8_undo_13 : decode cX8_undo 13 = .ok (.aload_n 0, 1) := by decide +kernel
theorem dX8_undo_14 : decode cX8_undo 14 = .ok (.getfield 28, 3) := by decide +kernel
theorem dX8_undo_17 : decode cX8_undo 17 = .ok (.aload_n 0, 1) := by decide +kernel
theorem dX8_undo_18 : decode cX8_undo 18 = .ok (.getfield 19, 3) := by decide +kernel
theorem dX8_undo_21 : decode cX8_undo 21 = .ok (.invokevirtual 182, 3) := by decide +kernel
theorem dX8_undo_24 : decode cX8_undo 24 = .ok (.aload_n 0, 1) := by decide +kernel
theorem dX8_undo_25 : decode cX8_undo 25 = .ok (.getfield 28, 3) := by decide +kernel
theorem dX8_undo_28 : decode cX8_undo 28 = .ok (.getfield 181, 3) := by decide +kernel
theorem dX8_undo_31 : decode cX8_undo 31 = .ok (.ireturn, 1) := by decide +kernel
theorem dX8_order_0 : decode cX8_order 0 = .ok (.iload_n 1, 1) := by decide +kernel
theorem dX8_order_1 : decode cX8_order 1 = .ok (.iconst (-1), 1) := by decide +kernel
theorem dX8_order_2 : decode cX8_order 2 = .ok (.if_icmp .eq 16, 3) := by decide +kernel
theorem dX8_order_5 : decode cX8_order 5 = .ok (.aload_n 0, 1) := by decide +kernel
theorem dX8_order_6 : decode cX8_order 6 = .ok (.getfield 79, 3) := by decide +kernel
theorem dX8_order_9 : decode cX8_order 9 = .ok (.iload_n 1, 1) := by decide +kernel
theorem dX8_order_10 : decode cX8_order 10 = .ok (.invokevirtual 125, 3) := by decide +kernel
theorem dX8_order_13 : decode cX8_order 13 = .ok (.ifCond .ne 5, 3) := by decide +kernel
theorem dX8_order_16 : decode cX8_order 16 = .ok (.iconst (-1), 1) := by decide +kernel
theorem dX8_order_17 : decode cX8_order 17 = .ok (.ireturn, 1) := by decide +kernel
theorem dX8_order_18 : decode cX8_order 18 = .ok (.aload_n 0, 1) := by decide +kernel
theorem dX8_order_19 : decode cX8_order 19 = .ok (.getfield 52, 3) := by decide +kernel
theorem dX8_order_22 : decode cX8_order 22 = .ok (.getfield 121, 3) := by decide +kernel
theorem dX8_order_25 : decode cX8_order 25 = .ok (.ifCond .ne 14, 3) := by decide +kernel
theorem dX8_order_28 : decode cX8_order 28 = .ok (.aload_n 0, 1) := by decide +kernel
theorem dX8_order_29 : decode cX8_order 29 = .ok (.getfield 52, 3) := by decide +kernel
theorem dX8_order_32 : decode cX8_order 32 = .ok (.aload_n 0, 1) := by decide +kernel
theorem dX8_order_33 : decode cX8_order 33 = .ok (.getfield 79, 3) := by decide +kernel
theorem dX8_order_36 : decode cX8_order 36 = .ok (.invokevirtual 185, 3) := by decide +kernel
theorem dX8_order_39 : decode cX8_order 39 = .ok (.iload_n 1, 1) := by decide +kernel
theorem dX8_order_40 : decode cX8_order 40 = .ok (.iconst (-1), 1) := by decide +kernel
theorem dX8_order_41 : decode cX8_order 41 = .ok (.if_icmp .ne 13, 3) := by decide +kernel
theorem dX8_order_44 : decode cX8_order 44 = .ok (.aload_n 0, 1) := by decide +kernel
theorem dX8_order_45 : decode cX8_order 45 = .ok (.getfield 52, 3) := by decide +kernel
theorem dX8_order_48 : decode cX8_order 48 = .ok (.getfield 189, 3) := by decide +kernel
theorem dX8_order_51 : decode cX8_order 51 = .ok (.goto 12, 3) := by decide +kernel
theorem dX8_order_54 : decode cX8_order 54 = .ok (.aload_n 0, 1) := by decide +kernel
theorem dX8_order_55 : decode cX8_order 55 = .ok (.getfield 52, 3) := by decide +kernel
theorem dX8_order_58 : decode cX8_order 58 = .ok (.getfield 192, 3) := by decide +kernel
theorem dX8_order_61 : decode cX8_order 61 = .ok (.iload_n 1, 1) := by decide +kernel
theorem dX8_order_62 : decode cX8_order 62 = .ok (.iaload, 1) := by decide +kernel
theorem dX8_order_63 : decode cX8_order 63 = .ok (.ireturn, 1) := by decide +kernel
theorem dX8_bribes_0 : decode cX8_bribes 0 = .ok (.iload_n 1, 1) := by decide +kernel
theorem dX8_bribes_1 : decode cX8_bribes 1 = .ok (.ifCond .eq 10, 3) := by decide +kernel
theorem dX8_bribes_4 : decode cX8_bribes 4 = .ok (.iload_n 1, 1) := by decide +kernel
theorem dX8_bribes_5 : decode cX8_bribes 5 = .ok (.iconst 1, 1) := by decide +kernel
theorem dX8_bribes_6 : decode cX8_bribes 6 = .ok (.if_icmp .eq 5, 3) := by decide +kernel
theorem dX8_bribes_9 : decode cX8_bribes 9 = .ok (.iconst (-1), 1) := by decide +kernel
theorem dX8_bribes_10 : decode cX8_bribes 10 = .ok (.ireturn, 1) := by decide +kernel
theorem dX8_bribes_11 : decode cX8_bribes 11 = .ok (.iconst 0, 1) := by decide +kernel
theorem dX8_bribes_12 : decode cX8_bribes 12 = .ok (.istore_n 2, 1) := by decide +kernel
theorem dX8_bribes_13 : decode cX8_bribes 13 = .ok (.iload_n 2, 1) := by decide +kernel
theorem dX8_bribes_14 : decode cX8_bribes 14 = .ok (.aload_n 0, 1) := by decide +kernel
theorem dX8_bribes_15 : decode cX8_bribes 15 = .ok (.getfield 79, 3) := by decide +kernel
theorem dX8_bribes_18 : decode cX8_bribes 18 = .ok (.getfield 108, 3) := by decide +kernel
theorem dX8_bribes_21 : decode cX8_bribes 21 = .ok (.if_icmp .ge 43, 3) := by decide +kernel
theorem dX8_bribes_24 : decode cX8_bribes 24 = .ok (.aload_n 0, 1) := by decide +kernel
theorem dX8_bribes_25 : decode cX8_bribes 25 = .ok (.getfield 67, 3) := by decide +kernel
theorem dX8_bribes_28 : decode cX8_bribes 28 = .ok (.iload_n 2, 1) := by decide +kernel
theorem dX8_bribes_29 : decode cX8_bribes 29 = .ok (.aload_n 0, 1) := by decide +kernel
theorem dX8_bribes_30 : decode cX8_bribes 30 = .ok (.getfield 79, 3) := by decide +kernel
theorem dX8_bribes_33 : decode cX8_bribes 33 = .ok (.iload_n 2, 1) := by decide +kernel
theorem dX8_bribes_34 : decode cX8_bribes 34 = .ok (.iconst 0, 1) := by decide +kernel
theorem dX8_bribes_35 : decode cX8_bribes 35 = .ok (.invokevirtual 145, 3) := by decide +kernel
theorem dX8_bribes_38 : decode cX8_bribes 38 = .ok (.iastore, 1) := by decide +kernel
theorem dX8_bribes_39 : decode cX8_bribes 39 = .ok (.aload_n 0, 1) := by decide +kernel
theorem dX8_bribes_40 : decode cX8_bribes 40 = .ok (.getfield 70, 3) := by decide +kernel
theorem dX8_bribes_43 : decode cX8_bribes 43 = .ok (.iload_n 2, 1) := by decide +kernel
theorem dX8_bribes_44 : decode cX8_bribes 44 = .ok (.aload_n 0, 1) := by decide +kernel
theorem dX8_bribes_45 : decode cX8_bribes 45 = .ok (.getfield 79, 3) := by decide +kernel
theorem dX8_bribes_48 : decode cX8_bribes 48 = .ok (.iload_n 2, 1) := by decide +kernel
theorem dX8_bribes_49 : decode cX8_bribes 49 = .ok (.aload_n 0, 1) := by decide +kernel
theorem dX8_bribes_50 : decode cX8_bribes 50 = .ok (.iload_n 2, 1) := by decide +kernel
theorem dX8_bribes_51 : decode cX8_bribes 51 = .ok (.invokevirtual 142, 3) := by decide +kernel
theorem dX8_bribes_54 : decode cX8_bribes 54 = .ok (.invokevirtual 145, 3) := by decide +kernel
theorem dX8_bribes_57 : decode cX8_bribes 57 = .ok (.iastore, 1) := by decide +kernel
theorem dX8_bribes_58 : decode cX8_bribes 58 = .ok (.iinc 2 1, 3) := by decide +kernel
theorem dX8_bribes_61 : decode cX8_bribes 61 = .ok (.goto (-48), 3) := by decide +kernel
theorem dX8_bribes_64 : decode cX8_bribes 64 = .ok (.bipush (-4), 2) := by decide +kernel
theorem dX8_bribes_66 : decode cX8_bribes 66 = .ok (.istore_n 2, 1) := by decide +kernel
theorem dX8_bribes_67 : decode cX8_bribes 67 = .ok (.bipush (-4), 2) := by decide +kernel
theorem dX8_bribes_69 : decode cX8_bribes 69 = .ok (.istore_n 3, 1) := by decide +kernel
theorem dX8_bribes_70 : decode cX8_bribes 70 = .ok (.iconst 0, 1) := by decide +kernel
theorem dX8_bribes_71 : decode cX8_bribes 71 = .ok (.istore 4, 2) := by decide +kernel
theorem dX8_bribes_73 : decode cX8_bribes 73 = .ok (.iload 4, 2) := by decide +kernel
theorem dX8_bribes_75 : decode cX8_bribes 75 = .ok (.iconst 1, 1) := by decide +kernel
theorem dX8_bribes_76 : decode cX8_bribes 76 = .ok (.aload_n 0, 1) := by decide +kernel
theorem dX8_bribes_77 : decode cX8_bribes 77 = .ok (.getfield 79, 3) := by decide +kernel
theorem dX8_bribes_80 : decode cX8_bribes 80 = .ok (.getfield 108, 3) := by decide +kernel
theorem dX8_bribes_83 : decode cX8_bribes 83 = .ok (.ishl, 1) := by decide +kernel
theorem dX8_bribes_84 : decode cX8_bribes 84 = .ok (.if_icmp .ge 54, 3) := by decide +kernel
theorem dX8_bribes_87 : decode cX8_bribes 87 = .ok (.aload_n 0, 1) := by decide +kernel
theorem dX8_bribes_88 : decode cX8_bribes 88 = .ok (.getfield 79, 3) := by decide +kernel
theorem dX8_bribes_91 : decode cX8_bribes 91 = .ok (.aload_n 0, 1) := by decide +kernel
theorem dX8_bribes_92 : decode cX8_bribes 92 = .ok (.getfield 79, 3) := by decide +kernel
theorem dX8_bribes_95 : decode cX8_bribes 95 = .ok (.getfield 135, 3) := by decide +kernel
theorem dX8_bribes_98 : decode cX8_bribes 98 = .ok (.iload 4, 2) := by decide +kernel
theorem dX8_bribes_100 : decode cX8_bribes 100 = .ok (.invokevirtual 195, 3) := by decide +kernel
theorem dX8_bribes_103 : decode cX8_bribes 103 = .ok (.istore 5, 2) := by decide +kernel
theorem dX8_bribes_105 : decode cX8_bribes 105 = .ok (.iload_n 2, 1) := by decide +kernel
theorem dX8_bribes_106 : decode cX8_bribes 106 = .ok (.bipush (-4), 2) := by decide +kernel
theorem dX8_bribes_108 : decode cX8_bribes 108 = .ok (.if_icmp .eq 9, 3) := by decide +kernel
theorem dX8_bribes_111 : decode cX8_bribes 111 = .ok (.iload 5, 2) := by decide +kernel
theorem dX8_bribes_113 : decode cX8_bribes 113 = .ok (.iload_n 3, 1) := by decide +kernel
theorem dX8_bribes_114 : decode cX8_bribes 114 = .ok (.if_icmp .ge 18, 3) := by decide +kernel
theorem dX8_bribes_117 : decode cX8_bribes 117 = .ok (.aload_n 0, 1) := by decide +kernel
theorem dX8_bribes_118 : decode cX8_bribes 118 = .ok (.iload 4, 2) := by decide +kernel
theorem dX8_bribes_120 : decode cX8_bribes 120 = .ok (.invokevirtual 199, 3) := by decide +kernel
theorem dX8_bribes_123 : decode cX8_bribes 123 = .ok (.ifCond .eq 9, 3) := by decide +kernel
theorem dX8_bribes_126 : decode cX8_bribes 126 = .ok (.iload 4, 2) := by decide +kernel
theorem dX8_bribes_128 : decode cX8_bribes 128 = .ok (.istore_n 2, 1) := by decide +kernel
theorem dX8_bribes_129 : decode cX8_bribes 129 = .ok (.iload 5, 2) := by decide +kernel
theorem dX8_bribes_131 : decode cX8_bribes 131 = .ok (.istore_n 3, 1) := by decide +kernel
theorem dX8_bribes_132 : decode cX8_bribes 132 = .ok (.iinc 4 1, 3) := by decide +kernel
theorem dX8_bribes_135 : decode cX8_bribes 135 = .ok (.goto (-62), 3) := by decide +kernel
theorem dX8_bribes_138 : decode cX8_bribes 138 = .ok (.iload_n 1, 1) := by decide +kernel
theorem dX8_bribes_139 : decode cX8_bribes 139 = .ok (.ifCond .ne 7, 3) := by decide +kernel
theorem dX8_bribes_142 : decode cX8_bribes 142 = .ok (.iload_n 3, 1) := by decide +kernel
theorem dX8_bribes_143 : decode cX8_bribes 143 = .ok (.goto 4, 3) := by decide +kernel
theorem dX8_bribes_146 : decode cX8_bribes 146 = .ok (.iload_n 2, 1) := by decide +kernel
theorem dX8_bribes_147 : decode cX8_bribes 147 = .ok (.ireturn, 1) := by decide +kernel
theorem dX8_closed_0 : decode cX8_closed 0 = .ok (.iload_n 1, 1) := by decide +kernel
theorem dX8_closed_1 : decode cX8_closed 1 = .ok (.iconst (-1), 1) := by decide +kernel
theorem dX8_closed_2 : decode cX8_closed 2 = .ok (.if_icmp .eq 16, 3) := by decide +kernel
theorem dX8_closed_5 : decode cX8_closed 5 = .ok (.aload_n 0, 1) := by decide +kernel
theorem dX8_closed_6 : decode cX8_closed 6 = .ok (.getfield 79, 3) := by decide +kernel
theorem dX8_closed_9 : decode cX8_closed 9 = .ok (.iload_n 1, 1) := by decide +kernel
theorem dX8_closed_10 : decode cX8_closed 10 = .ok (.invokevirtual 125, 3) := by decide +kernel
theorem dX8_closed_13 : decode cX8_closed 13 = .ok (.ifCond .ne 5, 3) := by decide +kernel
theorem dX8_closed_16 : decode cX8_closed 16 = .ok (.iconst (-1), 1) := by decide +kernel
theorem dX8_closed_17 : decode cX8_closed 17 = .ok (.ireturn, 1) := by decide +kernel
theorem dX8_closed_18 : decode cX8_closed 18 = .ok (.aload_n 0, 1) := by decide +kernel
theorem dX8_closed_19 : decode cX8_closed 19 = .ok (.invokevirtual 155, 3) := by decide +kernel
theorem dX8_closed_22 : decode cX8_closed 22 = .ok (.aload_n 0, 1) := by decide +kernel
theorem dX8_closed_23 : decode cX8_closed 23 = .ok (.invokevirtual 202, 3) := by decide +kernel
theorem dX8_closed_26 : decode cX8_closed 26 = .ok (.iload_n 1, 1) := by decide +kernel
theorem dX8_closed_27 : decode cX8_closed 27 = .ok (.iconst (-1), 1) := by decide +kernel
theorem dX8_closed_28 : decode cX8_closed 28 = .ok (.if_icmp .eq 17, 3) := by decide +kernel
theorem dX8_closed_31 : decode cX8_closed 31 = .ok (.aload_n 0, 1) := by decide +kernel
theorem dX8_closed_32 : decode cX8_closed 32 = .ok (.getfield 63, 3) := by decide +kernel
theorem dX8_closed_35 : decode cX8_closed 35 = .ok (.iload_n 1, 1) := by decide +kernel
theorem dX8_closed_36 : decode cX8_closed 36 = .ok (.iaload, 1) := by decide +kernel
theorem dX8_closed_37 : decode cX8_closed 37 = .ok (.aload_n 0, 1) := by decide +kernel
theorem dX8_closed_38 : decode cX8_closed 38 = .ok (.getfield 73, 3) := by decide +kernel
theorem dX8_closed_41 : decode cX8_closed 41 = .ok (.iload_n 1, 1) := by decide +kernel
theorem dX8_closed_42 : decode cX8_closed 42 = .ok (.iaload, 1) := by decide +kernel
theorem dX8_closed_43 : decode cX8_closed 43 = .ok (.isub, 1) := by decide +kernel
theorem dX8_closed_44 : decode cX8_closed 44 = .ok (.ireturn, 1) := by decide +kernel
theorem dX8_closed_45 : decode cX8_closed 45 = .ok (.iconst 0, 1) := by decide +kernel
theorem dX8_closed_46 : decode cX8_closed 46 = .ok (.istore_n 2, 1) := by decide +kernel
theorem dX8_closed_47 : decode cX8_closed 47 = .ok (.iconst 0, 1) := by decide +kernel
theorem dX8_closed_48 : decode cX8_closed 48 = .ok (.istore_n 3, 1) := by decide +kernel
theorem dX8_closed_49 : decode cX8_closed 49 = .ok (.iload_n 3, 1) := by decide +kernel
theorem dX8_closed_50 : decode cX8_closed 50 = .ok (.aload_n 0, 1) := by decide +kernel
theorem dX8_closed_51 : decode cX8_closed 51 = .ok (.getfield 79, 3) := by decide +kernel
theorem dX8_closed_54 : decode cX8_closed 54 = .ok (.getfield 108, 3) := by decide +kernel
theorem dX8_closed_57 : decode cX8_closed 57 = .ok (.if_icmp .ge 25, 3) := by decide +kernel
theorem dX8_closed_60 : decode cX8_closed 60 = .ok (.iload_n 2, 1) := by decide +kernel
theorem dX8_closed_61 : decode cX8_closed 61 = .ok (.aload_n 0, 1) := by decide +kernel
theorem dX8_closed_62 : decode cX8_closed 62 = .ok (.getfield 63, 3) := by decide +kernel
theorem dX8_closed_65 : decode cX8_closed 65 = .ok (.iload_n 3, 1) := by decide +kernel
theorem dX8_closed_66 : decode cX8_closed 66 = .ok (.iaload, 1) := by decide +kernel
theorem dX8_closed_67 : decode cX8_closed 67 = .ok (.aload_n 0, 1) := by decide +kernel
theorem dX8_closed_68 : decode cX8_closed 68 = .ok (.getfield 73, 3) := by decide +kernel
theorem dX8_closed_71 : decode cX8_closed 71 = .ok (.iload_n 3, 1) := by decide +kernel
theorem dX8_closed_72 : decode cX8_closed 72 = .ok (.iaload, 1) := by decide +kernel
theorem dX8_closed_73 : decode cX8_closed 73 = .ok (.isub, 1) := by decide +kernel
theorem dX8_closed_74 : decode cX8_closed 74 = .ok (.iadd, 1) := by decide +kernel
theorem dX8_closed_75 : decode cX8_closed 75 = .ok (.istore_n 2, 1) := by decide +kernel
theorem dX8_closed_76 : decode cX8_closed 76 = .ok (.iinc 3 1, 3) := by decide +kernel
theorem dX8_closed_79 : decode cX8_closed 79 = .ok (.goto (-30), 3) := by decide +kernel
theorem dX8_closed_82 : decode cX8_closed 82 = .ok (.iload_n 2, 1) := by decide +kernel
theorem dX8_closed_83 : decode cX8_closed 83 = .ok (.ireturn, 1) := by decide +kernel
theorem dX8_seen_0 : decode cX8_seen 0 = .ok (.aload_n 0, 1) := by decide +kernel
theorem dX8_seen_1 : decode cX8_seen 1 = .ok (.getfield 79, 3) := by decide +kernel
theorem dX8_seen_4 : decode cX8_seen 4 = .ok (.iload_n 1, 1) := by decide +kernel
theorem dX8_seen_5 : decode cX8_seen 5 = .ok (.invokevirtual 205, 3) := by decide +kernel
theorem dX8_seen_8 : decode cX8_seen 8 = .ok (.ifCond .eq 23, 3) := by decide +kernel
theorem dX8_seen_11 : decode cX8_seen 11 = .ok (.iload_n 2, 1) := by decide +kernel
theorem dX8_seen_12 : decode cX8_seen 12 = .ok (.bipush 10, 2) := by decide +kernel
theorem dX8_seen_14 : decode cX8_seen 14 = .ok (.if_icmp .lt 17, 3) := by decide +kernel
theorem dX8_seen_17 : decode cX8_seen 17 = .ok (.iload_n 2, 1) := by decide +kernel
theorem dX8_seen_18 : decode cX8_seen 18 = .ok (.sipush 199, 3) := by decide +kernel
theorem dX8_seen_21 : decode cX8_seen 21 = .ok (.if_icmp .gt 10, 3) := by decide +kernel
theorem dX8_seen_24 : decode cX8_seen 24 = .ok (.iload_n 3, 1) := by decide +kernel
theorem dX8_seen_25 : decode cX8_seen 25 = .ok (.invokestatic 208, 3) := by decide +kernel
theorem dX8_seen_28 : decode cX8_seen 28 = .ok (.ifCond .ne 5, 3) := by decide +kernel
theorem dX8_seen_31 : decode cX8_seen 31 = .ok (.iconst (-1), 1) := by decide +kernel
theorem dX8_seen_32 : decode cX8_seen 32 = .ok (.ireturn, 1) := by decide +kernel
theorem dX8_seen_33 : decode cX8_seen 33 = .ok (.aload_n 0, 1) := by decide +kernel
theorem dX8_seen_34 : decode cX8_seen 34 = .ok (.getfield 38, 3) := by decide +kernel
theorem dX8_seen_37 : decode cX8_seen 37 = .ok (.getfield 117, 3) := by decide +kernel
theorem dX8_seen_40 : decode cX8_seen 40 = .ok (.bipush 10, 2) := by decide +kernel
theorem dX8_seen_42 : decode cX8_seen 42 = .ok (.if_icmp .lt 6, 3) := by decide +kernel
theorem dX8_seen_45 : decode cX8_seen 45 = .ok (.bipush (-3), 2) := by decide +kernel
theorem dX8_seen_47 : decode cX8_seen 47 = .ok (.ireturn, 1) := by decide +kernel
theorem dX8_seen_48 : decode cX8_seen 48 = .ok (.aload_n 0, 1) := by decide +kernel
theorem dX8_seen_49 : decode cX8_seen 49 = .ok (.getfield 38, 3) := by decide +kernel
theorem dX8_seen_52 : decode cX8_seen 52 = .ok (.iload_n 1, 1) := by decide +kernel
theorem dX8_seen_53 : decode cX8_seen 53 = .ok (.iload_n 2, 1) := by decide +kernel
theorem dX8_seen_54 : decode cX8_seen 54 = .ok (.iload_n 3, 1) := by decide +kernel
theorem dX8_seen_55 : decode cX8_seen 55 = .ok (.invokevirtual 211, 3) := by decide +kernel
theorem dX8_seen_58 : decode cX8_seen 58 = .ok (.aload_n 0, 1) := by decide +kernel
theorem dX8_seen_59 : decode cX8_seen 59 = .ok (.getfield 38, 3) := by decide +kernel
theorem dX8_seen_62 : decode cX8_seen 62 = .ok (.getfield 117, 3) := by decide +kernel
theorem dX8_seen_65 : decode cX8_seen 65 = .ok (.ireturn, 1) := by decide +kernel
theorem dX8_forget_0 : decode cX8_forget 0 = .ok (.aload_n 0, 1) := by decide +kernel
theorem dX8_forget_1 : decode cX8_forget 1 = .ok (.getfield 38, 3) := by decide +kernel
theorem dX8_forget_4 : decode cX8_forget 4 = .ok (.getfield 117, 3) := by decide +kernel
theorem dX8_forget_7 : decode cX8_forget 7 = .ok (.istore_n 1, 1) := by decide +kernel
theorem dX8_forget_8 : decode cX8_forget 8 = .ok (.aload_n 0, 1) := by decide +kernel
theorem dX8_forget_9 : decode cX8_forget 9 = .ok (.getfield 38, 3) := by decide +kernel
theorem dX8_forget_12 : decode cX8_forget 12 = .ok (.iconst 0, 1) := by decide +kernel
theorem dX8_forget_13 : decode cX8_forget 13 = .ok (.putfield 117, 3) := by decide +kernel
theorem dX8_forget_16 : decode cX8_forget 16 = .ok (.iload_n 1, 1) := by decide +kernel
theorem dX8_forget_17 : decode cX8_forget 17 = .ok (.ireturn, 1) := by decide +kernel
theorem dX8_inch_0 : decode cX8_inch 0 = .ok (.aload_n 0, 1) := by decide +kernel
theorem dX8_inch_1 : decode cX8_inch 1 = .ok (.getfield 79, 3) := by decide +kernel
theorem dX8_inch_4 : decode cX8_inch 4 = .ok (.iload_n 1, 1) := by decide +kernel
theorem dX8_inch_5 : decode cX8_inch 5 = .ok (.invokevirtual 205, 3) := by decide +kernel
theorem dX8_inch_8 : decode cX8_inch 8 = .ok (.ifCond .eq 12, 3) := by decide +kernel
theorem dX8_inch_11 : decode cX8_inch 11 = .ok (.iload_n 2, 1) := by decide +kernel
theorem dX8_inch_12 : decode cX8_inch 12 = .ok (.ifCond .eq 10, 3) := by decide +kernel
theorem dX8_inch_15 : decode cX8_inch 15 = .ok (.iload_n 2, 1) := by decide +kernel
theorem dX8_inch_16 : decode cX8_inch 16 = .ok (.iconst 1, 1) := by decide +kernel
theorem dX8_inch_17 : decode cX8_inch 17 = .ok (.if_icmp .eq 5, 3) := by decide +kernel
theorem dX8_inch_20 : decode cX8_inch 20 = .ok (.iconst (-1), 1) := by decide +kernel
theorem dX8_inch_21 : decode cX8_inch 21 = .ok (.ireturn, 1) := by decide +kernel
theorem dX8_inch_22 : decode cX8_inch 22 = .ok (.iconst 0, 1) := by decide +kernel
theorem dX8_inch_23 : decode cX8_inch 23 = .ok (.istore_n 3, 1) := by decide +kernel
theorem dX8_inch_24 : decode cX8_inch 24 = .ok (.bipush (-4), 2) := by decide +kernel
theorem dX8_inch_26 : decode cX8_inch 26 = .ok (.istore 4, 2) := by decide +kernel
theorem dX8_inch_28 : decode cX8_inch 28 = .ok (.bipush 120, 2) := by decide +kernel
theorem dX8_inch_30 : decode cX8_inch 30 = .ok (.istore 5, 2) := by decide +kernel
theorem dX8_inch_32 : decode cX8_inch 32 = .ok (.iload 5, 2) := by decide +kernel
theorem dX8_inch_34 : decode cX8_inch 34 = .ok (.bipush 80, 2) := by decide +kernel
theorem dX8_inch_36 : decode cX8_inch 36 = .ok (.if_icmp .lt 29, 3) := by decide +kernel
theorem dX8_inch_39 : decode cX8_inch 39 = .ok (.aload_n 0, 1) := by decide +kernel
theorem dX8_inch_40 : decode cX8_inch 40 = .ok (.getfield 38, 3) := by decide +kernel
theorem dX8_inch_43 : decode cX8_inch 43 = .ok (.iload_n 1, 1) := by decide +kernel
theorem dX8_inch_44 : decode cX8_inch 44 = .ok (.iload 5, 2) := by decide +kernel
theorem dX8_inch_46 : decode cX8_inch 46 = .ok (.invokevirtual 215, 3) := by decide +kernel
theorem dX8_inch_49 : decode cX8_inch 49 = .ok (.ifCond .eq 10, 3) := by decide +kernel
theorem dX8_inch_52 : decode cX8_inch 52 = .ok (.iinc 3 1, 3) := by decide +kernel
theorem dX8_inch_55 : decode cX8_inch 55 = .ok (.iload 5, 2) := by decide +kernel
theorem dX8_inch_57 : decode cX8_inch 57 = .ok (.istore 4, 2) := by decide +kernel
theorem dX8_inch_59 : decode cX8_inch 59 = .ok (.iinc 5 (-1), 3) := by decide +kernel
theorem dX8_inch_62 : decode cX8_inch 62 = .ok (.goto (-30), 3) := by decide +kernel
theorem dX8_inch_65 : decode cX8_inch 65 = .ok (.iload_n 2, 1) := by decide +kernel
theorem dX8_inch_66 : decode cX8_inch 66 = .ok (.ifCond .ne 7, 3) := by decide +kernel
theorem dX8_inch_69 : decode cX8_inch 69 = .ok (.iload_n 3, 1) := by decide +kernel
theorem dX8_inch_70 : decode cX8_inch 70 = .ok (.goto 5, 3) := by decide +kernel
theorem dX8_inch_73 : decode cX8_inch 73 = .ok (.iload 4, 2) := by decide +kernel
theorem dX8_inch_75 : decode cX8_inch 75 = .ok (.ireturn, 1) := by decide +kernel
theorem dX8_added_0 : decode cX8_added 0 = .ok (.aload_n 0, 1) := by decide +kernel
theorem dX8_added_1 : decode cX8_added 1 = .ok (.getfield 79, 3) := by decide +kernel
theorem dX8_added_4 : decode cX8_added 4 = .ok (.iload_n 1, 1) := by decide +kernel
theorem dX8_added_5 : decode cX8_added 5 = .ok (.invokevirtual 125, 3) := by decide +kernel
theorem dX8_added_8 : decode cX8_added 8 = .ok (.ifCond .eq 10, 3) := by decide +kernel
theorem dX8_added_11 : decode cX8_added 11 = .ok (.iload_n 2, 1) := by decide +kernel
theorem dX8_added_12 : decode cX8_added 12 = .ok (.invokestatic 208, 3) := by decide +kernel
theorem dX8_added_15 : decode cX8_added 15 = .ok (.ifCond .ne 5, 3) := by decide +kernel
theorem dX8_added_18 : decode cX8_added 18 = .ok (.iconst (-1), 1) := by decide +kernel
theorem dX8_added_19 : decode cX8_added 19 = .ok (.ireturn, 1) := by decide +kernel
theorem dX8_added_20 : decode cX8_added 20 = .ok (.iconst 0, 1) := by decide +kernel
theorem dX8_added_21 : decode cX8_added 21 = .ok (.istore_n 3, 1) := by decide +kernel
theorem dX8_added_22 : decode cX8_added 22 = .ok (.iload_n 3, 1) := by decide +kernel
theorem dX8_added_23 : decode cX8_added 23 = .ok (.bipush 9, 2) := by decide +kernel
theorem dX8_added_25 : decode cX8_added 25 = .ok (.if_icmp .gt 46, 3) := by decide +kernel
theorem dX8_added_28 : decode cX8_added 28 = .ok (.aload_n 0, 1) := by decide +kernel
theorem dX8_added_29 : decode cX8_added 29 = .ok (.getfield 79, 3) := by decide +kernel
theorem dX8_added_32 : decode cX8_added 32 = .ok (.iload_n 1, 1) := by decide +kernel
theorem dX8_added_33 : decode cX8_added 33 = .ok (.iload_n 3, 1) := by decide +kernel
theorem dX8_added_34 : decode cX8_added 34 = .ok (.ineg, 1) := by decide +kernel
theorem dX8_added_35 : decode cX8_added 35 = .ok (.invokevirtual 145, 3) := by decide +kernel
theorem dX8_added_38 : decode cX8_added 38 = .ok (.iload_n 2, 1) := by decide +kernel
theorem dX8_added_39 : decode cX8_added 39 = .ok (.if_icmp .ne 8, 3) := by decide +kernel
theorem dX8_added_42 : decode cX8_added 42 = .ok (.bipush 100, 2) := by decide +kernel
theorem dX8_added_44 : decode cX8_added 44 = .ok (.iload_n 3, 1) := by decide +kernel
theorem dX8_added_45 : decode cX8_added 45 = .ok (.isub, 1) := by decide +kernel
theorem dX8_added_46 : decode cX8_added 46 = .ok (.ireturn, 1) := by decide +kernel
theorem dX8_added_47 : decode cX8_added 47 = .ok (.aload_n 0, 1) := by decide +kernel
theorem dX8_added_48 : decode cX8_added 48 = .ok (.getfield 79, 3) := by decide +kernel
theorem dX8_added_51 : decode cX8_added 51 = .ok (.iload_n 1, 1) := by decide +kernel
theorem dX8_added_52 : decode cX8_added 52 = .ok (.iload_n 3, 1) := by decide +kernel
theorem dX8_added_53 : decode cX8_added 53 = .ok (.invokevirtual 145, 3) := by decide +kernel
theorem dX8_added_56 : decode cX8_added 56 = .ok (.iload_n 2, 1) := by decide +kernel
theorem dX8_added_57 : decode cX8_added 57 = .ok (.if_icmp .ne 8, 3) := by decide +kernel
theorem dX8_added_60 : decode cX8_added 60 = .ok (.bipush 100, 2) := by decide +kernel
theorem dX8_added_62 : decode cX8_added 62 = .ok (.iload_n 3, 1) := by decide +kernel
theorem dX8_added_63 : decode cX8_added 63 = .ok (.iadd, 1) := by decide +kernel
theorem dX8_added_64 : decode cX8_added 64 = .ok (.ireturn, 1) := by decide +kernel
theorem dX8_added_65 : decode cX8_added 65 = .ok (.iinc 3 1, 3) := by decide +kernel
theorem dX8_added_68 : decode cX8_added 68 = .ok (.goto (-46), 3) := by decide +kernel
theorem dX8_added_71 : decode cX8_added 71 = .ok (.bipush (-4), 2) := by decide +kernel
theorem dX8_added_73 : decode cX8_added 73 = .ok (.ireturn, 1) := by decide +kernel
theorem dX8_bolts_0 : decode cX8_bolts 0 = .ok (.iload_n 1, 1) := by decide +kernel
theorem dX8_bolts_1 : decode cX8_bolts 1 = .ok (.iconst (-1), 1) := by decide +kernel
theorem dX8_bolts_2 : decode cX8_bolts 2 = .ok (.if_icmp .eq 16, 3) := by decide +kernel
theorem dX8_bolts_5 : decode cX8_bolts 5 = .ok (.aload_n 0, 1) := by decide +kernel
theorem dX8_bolts_6 : decode cX8_bolts 6 = .ok (.getfield 79, 3) := by decide +kernel
theorem dX8_bolts_9 : decode cX8_bolts 9 = .ok (.iload_n 1, 1) := by decide +kernel
theorem dX8_bolts_10 : decode cX8_bolts 10 = .ok (.invokevirtual 125, 3) := by decide +kernel
theorem dX8_bolts_13 : decode cX8_bolts 13 = .ok (.ifCond .ne 5, 3) := by decide +kernel
theorem dX8_bolts_16 : decode cX8_bolts 16 = .ok (.iconst (-1), 1) := by decide +kernel
theorem dX8_bolts_17 : decode cX8_bolts 17 = .ok (.ireturn, 1) := by decide +kernel
theorem dX8_bolts_18 : decode cX8_bolts 18 = .ok (.aload_n 0, 1) := by decide +kernel
theorem dX8_bolts_19 : decode cX8_bolts 19 = .ok (.invokevirtual 155, 3) := by decide +kernel
theorem dX8_bolts_22 : decode cX8_bolts 22 = .ok (.aload_n 0, 1) := by decide +kernel
theorem dX8_bolts_23 : decode cX8_bolts 23 = .ok (.getfield 59, 3) := by decide +kernel
theorem dX8_bolts_26 : decode cX8_bolts 26 = .ok (.aload_n 0, 1) := by decide +kernel
theorem dX8_bolts_27 : decode cX8_bolts 27 = .ok (.getfield 79, 3) := by decide +kernel
theorem dX8_bolts_30 : decode cX8_bolts 30 = .ok (.aload_n 0, 1) := by decide +kernel
theorem dX8_bolts_31 : decode cX8_bolts 31 = .ok (.getfield 63, 3) := by decide +kernel
theorem dX8_bolts_34 : decode cX8_bolts 34 = .ok (.invokevirtual 219, 3) := by decide +kernel
theorem dX8_bolts_37 : decode cX8_bolts 37 = .ok (.istore_n 2, 1) := by decide +kernel
theorem dX8_bolts_38 : decode cX8_bolts 38 = .ok (.iload_n 1, 1) := by decide +kernel
theorem dX8_bolts_39 : decode cX8_bolts 39 = .ok (.iconst (-1), 1) := by decide +kernel
theorem dX8_bolts_40 : decode cX8_bolts 40 = .ok (.if_icmp .eq 9, 3) := by decide +kernel
theorem dX8_bolts_43 : decode cX8_bolts 43 = .ok (.iload_n 2, 1) := by decide +kernel
theorem dX8_bolts_44 : decode cX8_bolts 44 = .ok (.bipush (-4), 2) := by decide +kernel
theorem dX8_bolts_46 : decode cX8_bolts 46 = .ok (.if_icmp .ne 7, 3) := by decide +kernel
theorem dX8_bolts_49 : decode cX8_bolts 49 = .ok (.iload_n 2, 1) := by decide +kernel
theorem dX8_bolts_50 : decode cX8_bolts 50 = .ok (.goto 12, 3) := by decide +kernel
theorem dX8_bolts_53 : decode cX8_bolts 53 = .ok (.aload_n 0, 1) := by decide +kernel
theorem dX8_bolts_54 : decode cX8_bolts 54 = .ok (.getfield 59, 3) := by decide +kernel
theorem dX8_bolts_57 : decode cX8_bolts 57 = .ok (.getfield 222, 3) := by decide +kernel
theorem dX8_bolts_60 : decode cX8_bolts 60 = .ok (.iload_n 1, 1) := by decide +kernel
theorem dX8_bolts_61 : decode cX8_bolts 61 = .ok (.iaload, 1) := by decide +kernel
theorem dX8_bolts_62 : decode cX8_bolts 62 = .ok (.ireturn, 1) := by decide +kernel
theorem dX8_coat_0 : decode cX8_coat 0 = .ok (.iload_n 1, 1) := by decide +kernel
theorem dX8_coat_1 : decode cX8_coat 1 = .ok (.ifCond .eq 10, 3) := by decide +kernel
theorem dX8_coat_4 : decode cX8_coat 4 = .ok (.iload_n 1, 1) := by decide +kernel
theorem dX8_coat_5 : decode cX8_coat 5 = .ok (.iconst 1, 1) := by decide +kernel
theorem dX8_coat_6 : decode cX8_coat 6 = .ok (.if_icmp .eq 5, 3) := by decide +kernel
theorem dX8_coat_9 : decode cX8_coat 9 = .ok (.iconst (-1), 1) := by decide +kernel
theorem dX8_coat_10 : decode cX8_coat 10 = .ok (.ireturn, 1) := by decide +kernel
theorem dX8_coat_11 : decode cX8_coat 11 = .ok (.aload_n 0, 1) := by decide +kernel
theorem dX8_coat_12 : decode cX8_coat 12 = .ok (.invokevirtual 155, 3) := by decide +kernel
theorem dX8_coat_15 : decode cX8_coat 15 = .ok (.iconst 1, 1) := by decide +kernel
theorem dX8_coat_16 : decode cX8_coat 16 = .ok (.aload_n 0, 1) := by decide +kernel
theorem dX8_coat_17 : decode cX8_coat 17 = .ok (.getfield 79, 3) := by decide +kernel
theorem dX8_coat_20 : decode cX8_coat 20 = .ok (.getfield 108, 3) := by decide +kernel
theorem dX8_coat_23 : decode cX8_coat 23 = .ok (.ishl, 1) := by decide +kernel
theorem dX8_coat_24 : decode cX8_coat 24 = .ok (.iconst 1, 1) := by decide +kernel
theorem dX8_coat_25 : decode cX8_coat 25 = .ok (.isub, 1) := by decide +kernel
theorem dX8_coat_26 : decode cX8_coat 26 = .ok (.istore_n 2, 1) := by decide +kernel
theorem dX8_coat_27 : decode cX8_coat 27 = .ok (.aload_n 0, 1) := by decide +kernel
theorem dX8_coat_28 : decode cX8_coat 28 = .ok (.getfield 79, 3) := by decide +kernel
theorem dX8_coat_31 : decode cX8_coat 31 = .ok (.aload_n 0, 1) := by decide +kernel
theorem dX8_coat_32 : decode cX8_coat 32 = .ok (.getfield 63, 3) := by decide +kernel
theorem dX8_coat_35 : decode cX8_coat 35 = .ok (.iload_n 2, 1) := by decide +kernel
theorem dX8_coat_36 : decode cX8_coat 36 = .ok (.invokevirtual 195, 3) := by decide +kernel
theorem dX8_coat_39 : decode cX8_coat 39 = .ok (.istore_n 3, 1) := by decide +kernel
theorem dX8_coat_40 : decode cX8_coat 40 = .ok (.iconst 0, 1) := by decide +kernel
theorem dX8_coat_41 : decode cX8_coat 41 = .ok (.istore 4, 2) := by decide +kernel
theorem dX8_coat_43 : decode cX8_coat 43 = .ok (.iload_n 3, 1) := by decide +kernel
theorem dX8_coat_44 : decode cX8_coat 44 = .ok (.istore 5, 2) := by decide +kernel
theorem dX8_coat_46 : decode cX8_coat 46 = .ok (.iconst 1, 1) := by decide +kernel
theorem dX8_coat_47 : decode cX8_coat 47 = .ok (.istore 6, 2) := by decide +kernel
theorem dX8_coat_49 : decode cX8_coat 49 = .ok (.iload 6, 2) := by decide +kernel
theorem dX8_coat_51 : decode cX8_coat 51 = .ok (.iload_n 2, 1) := by decide +kernel
theorem dX8_coat_52 : decode cX8_coat 52 = .ok (.if_icmp .gt 51, 3) := by decide +kernel
theorem dX8_coat_55 : decode cX8_coat 55 = .ok (.aload_n 0, 1) := by decide +kernel
theorem dX8_coat_56 : decode cX8_coat 56 = .ok (.getfield 79, 3) := by decide +kernel
theorem dX8_coat_59 : decode cX8_coat 59 = .ok (.aload_n 0, 1) := by decide +kernel
theorem dX8_coat_60 : decode cX8_coat 60 = .ok (.getfield 63, 3) := by decide +kernel
theorem dX8_coat_63 : decode cX8_coat 63 = .ok (.iload 6, 2) := by decide +kernel
theorem dX8_coat_65 : decode cX8_coat 65 = .ok (.invokevirtual 195, 3) := by decide +kernel
theorem dX8_coat_68 : decode cX8_coat 68 = .ok (.istore 7, 2) := by decide +kernel
theorem dX8_coat_70 : decode cX8_coat 70 = .ok (.iload_n 3, 1) := by decide +kernel
theorem dX8_coat_71 : decode cX8_coat 71 = .ok (.iload 7, 2) := by decide +kernel
theorem dX8_coat_73 : decode cX8_coat 73 = .ok (.isub, 1) := by decide +kernel
theorem dX8_coat_74 : decode cX8_coat 74 = .ok (.iload 7, 2) := by decide +kernel
theorem dX8_coat_76 : decode cX8_coat 76 = .ok (.isub, 1) := by decide +kernel
theorem dX8_coat_77 : decode cX8_coat 77 = .ok (.invokestatic 225, 3) := by decide +kernel
theorem dX8_coat_80 : decode cX8_coat 80 = .ok (.istore 8, 2) := by decide +kernel
theorem dX8_coat_82 : decode cX8_coat 82 = .ok (.iload 8, 2) := by decide +kernel
theorem dX8_coat_84 : decode cX8_coat 84 = .ok (.iload 5, 2) := by decide +kernel
theorem dX8_coat_86 : decode cX8_coat 86 = .ok (.if_icmp .ge 11, 3) := by decide +kernel
theorem dX8_coat_89 : decode cX8_coat 89 = .ok (.iload 6, 2) := by decide +kernel
theorem dX8_coat_91 : decode cX8_coat 91 = .ok (.istore 4, 2) := by decide +kernel
theorem dX8_coat_93 : decode cX8_coat 93 = .ok (.iload 8, 2) := by decide +kernel
theorem dX8_coat_95 : decode cX8_coat 95 = .ok (.istore 5, 2) := by decide +kernel
theorem dX8_coat_97 : decode cX8_coat 97 = .ok (.iinc 6 1, 3) := by decide +kernel
theorem dX8_coat_100 : decode cX8_coat 100 = .ok (.goto (-51), 3) := by decide +kernel
theorem dX8_coat_103 : decode cX8_coat 103 = .ok (.iload_n 1, 1) := by decide +kernel
theorem dX8_coat_104 : decode cX8_coat 104 = .ok (.ifCond .ne 8, 3) := by decide +kernel
theorem dX8_coat_107 : decode cX8_coat 107 = .ok (.iload 4, 2) := by decide +kernel
theorem dX8_coat_109 : decode cX8_coat 109 = .ok (.goto 5, 3) := by decide +kernel
theorem dX8_coat_112 : decode cX8_coat 112 = .ok (.iload 5, 2) := by decide +kernel
theorem dX8_coat_114 : decode cX8_coat 114 = .ok (.ireturn, 1) := by decide +kernel
theorem dX8_pin_0 : decode cX8_pin 0 = .ok (.aload_n 0, 1) := by decide +kernel
theorem dX8_pin_1 : decode cX8_pin 1 = .ok (.getfield 79, 3) := by decide +kernel
theorem dX8_pin_4 : decode cX8_pin 4 = .ok (.iload_n 1, 1) := by decide +kernel
theorem dX8_pin_5 : decode cX8_pin 5 = .ok (.invokevirtual 152, 3) := by decide +kernel
theorem dX8_pin_8 : decode cX8_pin 8 = .ok (.ifCond .ne 5, 3) := by decide +kernel
theorem dX8_pin_11 : decode cX8_pin 11 = .ok (.iconst (-1), 1) := by decide +kernel
theorem dX8_pin_12 : decode cX8_pin 12 = .ok (.ireturn, 1) := by decide +kernel
theorem dX8_pin_13 : decode cX8_pin 13 = .ok (.aload_n 0, 1) := by decide +kernel
theorem dX8_pin_14 : decode cX8_pin 14 = .ok (.getfield 79, 3) := by decide +kernel
theorem dX8_pin_17 : decode cX8_pin 17 = .ok (.getfield 129, 3) := by decide +kernel
theorem dX8_pin_20 : decode cX8_pin 20 = .ok (.aload_n 0, 1) := by decide +kernel
theorem dX8_pin_21 : decode cX8_pin 21 = .ok (.getfield 79, 3) := by decide +kernel
theorem dX8_pin_24 : decode cX8_pin 24 = .ok (.getfield 230, 3) := by decide +kernel
theorem dX8_pin_27 : decode cX8_pin 27 = .ok (.iload_n 1, 1) := by decide +kernel
theorem dX8_pin_28 : decode cX8_pin 28 = .ok (.iaload, 1) := by decide +kernel
theorem dX8_pin_29 : decode cX8_pin 29 = .ok (.iaload, 1) := by decide +kernel
theorem dX8_pin_30 : decode cX8_pin 30 = .ok (.istore_n 2, 1) := by decide +kernel
theorem dX8_pin_31 : decode cX8_pin 31 = .ok (.aload_n 0, 1) := by decide +kernel
theorem dX8_pin_32 : decode cX8_pin 32 = .ok (.getfield 79, 3) := by decide +kernel
theorem dX8_pin_35 : decode cX8_pin 35 = .ok (.getfield 129, 3) := by decide +kernel
theorem dX8_pin_38 : decode cX8_pin 38 = .ok (.aload_n 0, 1) := by decide +kernel
theorem dX8_pin_39 : decode cX8_pin 39 = .ok (.getfield 79, 3) := by decide +kernel
theorem dX8_pin_42 : decode cX8_pin 42 = .ok (.getfield 233, 3) := by decide +kernel
theorem dX8_pin_45 : decode cX8_pin 45 = .ok (.iload_n 1, 1) := by decide +kernel
theorem dX8_pin_46 : decode cX8_pin 46 = .ok (.iaload, 1) := by decide +kernel
theorem dX8_pin_47 : decode cX8_pin 47 = .ok (.iaload, 1) := by decide +kernel
theorem dX8_pin_48 : decode cX8_pin 48 = .ok (.istore_n 3, 1) := by decide +kernel
theorem dX8_pin_49 : decode cX8_pin 49 = .ok (.iload_n 2, 1) := by decide +kernel
theorem dX8_pin_50 : decode cX8_pin 50 = .ok (.iload_n 3, 1) := by decide +kernel
theorem dX8_pin_51 : decode cX8_pin 51 = .ok (.if_icmp .ne 6, 3) := by decide +kernel
theorem dX8_pin_54 : decode cX8_pin 54 = .ok (.bipush (-2), 2) := by decide +kernel
theorem dX8_pin_56 : decode cX8_pin 56 = .ok (.ireturn, 1) := by decide +kernel
theorem dX8_pin_57 : decode cX8_pin 57 = .ok (.aload_n 0, 1) := by decide +kernel
theorem dX8_pin_58 : decode cX8_pin 58 = .ok (.getfield 45, 3) := by decide +kernel
theorem dX8_pin_61 : decode cX8_pin 61 = .ok (.getfield 120, 3) := by decide +kernel
theorem dX8_pin_64 : decode cX8_pin 64 = .ok (.bipush 12, 2) := by decide +kernel
theorem dX8_pin_66 : decode cX8_pin 66 = .ok (.if_icmp .lt 6, 3) := by decide +kernel
theorem dX8_pin_69 : decode cX8_pin 69 = .ok (.bipush (-3), 2) := by decide +kernel
theorem dX8_pin_71 : decode cX8_pin 71 = .ok (.ireturn, 1) := by decide +kernel
theorem dX8_pin_72 : decode cX8_pin 72 = .ok (.aload_n 0, 1) := by decide +kernel
theorem dX8_pin_73 : decode cX8_pin 73 = .ok (.getfield 45, 3) := by decide +kernel
theorem dX8_pin_76 : decode cX8_pin 76 = .ok (.iload_n 1, 1) := by decide +kernel
theorem dX8_pin_77 : decode cX8_pin 77 = .ok (.aload_n 0, 1) := by decide +kernel
theorem dX8_pin_78 : decode cX8_pin 78 = .ok (.getfield 45, 3) := by decide +kernel
theorem dX8_pin_81 : decode cX8_pin 81 = .ok (.iload_n 1, 1) := by decide +kernel
theorem dX8_pin_82 : decode cX8_pin 82 = .ok (.invokevirtual 236, 3) := by decide +kernel
theorem dX8_pin_85 : decode cX8_pin 85 = .ok (.iconst 2, 1) := by decide +kernel
theorem dX8_pin_86 : decode cX8_pin 86 = .ok (.irem, 1) := by decide +kernel
theorem dX8_pin_87 : decode cX8_pin 87 = .ok (.ifCond .ne 7, 3) := by decide +kernel
theorem dX8_pin_90 : decode cX8_pin 90 = .ok (.iload_n 2, 1) := by decide +kernel
theorem dX8_pin_91 : decode cX8_pin 91 = .ok (.goto 4, 3) := by decide +kernel
theorem dX8_pin_94 : decode cX8_pin 94 = .ok (.iload_n 3, 1) := by decide +kernel
theorem dX8_pin_95 : decode cX8_pin 95 = .ok (.invokevirtual 239, 3) := by decide +kernel
theorem dX8_pin_98 : decode cX8_pin 98 = .ok (.aload_n 0, 1) := by decide +kernel
theorem dX8_pin_99 : decode cX8_pin 99 = .ok (.getfield 45, 3) := by decide +kernel
theorem dX8_pin_102 : decode cX8_pin 102 = .ok (.getfield 120, 3) := by decide +kernel
theorem dX8_pin_105 : decode cX8_pin 105 = .ok (.ireturn, 1) := by decide +kernel
theorem dX8_noPins_0 : decode cX8_noPins 0 = .ok (.aload_n 0, 1) := by decide +kernel
theorem dX8_noPins_1 : decode cX8_noPins 1 = .ok (.getfield 45, 3) := by decide +kernel
theorem dX8_noPins_4 : decode cX8_noPins 4 = .ok (.getfield 120, 3) := by decide +kernel
theorem dX8_noPins_7 : decode cX8_noPins 7 = .ok (.istore_n 1, 1) := by decide +kernel
theorem dX8_noPins_8 : decode cX8_noPins 8 = .ok (.aload_n 0, 1) := by decide +kernel
theorem dX8_noPins_9 : decode cX8_noPins 9 = .ok (.getfield 45, 3) := by decide +kernel
theorem dX8_noPins_12 : decode cX8_noPins 12 = .ok (.iconst 0, 1) := by decide +kernel
theorem dX8_noPins_13 : decode cX8_noPins 13 = .ok (.putfield 120, 3) := by decide +kernel
theorem dX8_noPins_16 : decode cX8_noPins 16 = .ok (.iload_n 1, 1) := by decide +kernel
theorem dX8_noPins_17 : decode cX8_noPins 17 = .ok (.ireturn, 1) := by decide +kernel
theorem dX8_thumb_0 : decode cX8_thumb 0 = .ok (.iload_n 1, 1) := by decide +kernel
theorem dX8_thumb_1 : decode cX8_thumb 1 = .ok (.ifCond .ge 5, 3) := by decide +kernel
theorem dX8_thumb_4 : decode cX8_thumb 4 = .ok (.iconst (-1), 1) := by decide +kernel
theorem dX8_thumb_5 : decode cX8_thumb 5 = .ok (.ireturn, 1) := by decide +kernel
theorem dX8_thumb_6 : decode cX8_thumb 6 = .ok (.iload_n 1, 1) := by decide +kernel
theorem dX8_thumb_7 : decode cX8_thumb 7 = .ok (.aload_n 0, 1) := by decide +kernel
theorem dX8_thumb_8 : decode cX8_thumb 8 = .ok (.getfield 45, 3) := by decide +kernel
theorem dX8_thumb_11 : decode cX8_thumb 11 = .ok (.getfield 120, 3) := by decide +kernel
theorem dX8_thumb_14 : decode cX8_thumb 14 = .ok (.if_icmp .ge 15, 3) := by decide +kernel
theorem dX8_thumb_17 : decode cX8_thumb 17 = .ok (.aload_n 0, 1) := by decide +kernel
theorem dX8_thumb_18 : decode cX8_thumb 18 = .ok (.getfield 45, 3) := by decide +kernel
theorem dX8_thumb_21 : decode cX8_thumb 21 = .ok (.getfield 241, 3) := by decide +kernel
theorem dX8_thumb_24 : decode cX8_thumb 24 = .ok (.iload_n 1, 1) := by decide +kernel
theorem dX8_thumb_25 : decode cX8_thumb 25 = .ok (.iaload, 1) := by decide +kernel
theorem dX8_thumb_26 : decode cX8_thumb 26 = .ok (.goto 5, 3) := by decide +kernel
theorem dX8_thumb_29 : decode cX8_thumb 29 = .ok (.bipush (-4), 2) := by decide +kernel
theorem dX8_thumb_31 : decode cX8_thumb 31 = .ok (.ireturn, 1) := by decide +kernel
theorem dX8_year_0 : decode cX8_year 0 = .ok (.iload_n 1, 1) := by decide +kernel
theorem dX8_year_1 : decode cX8_year 1 = .ok (.ifCond .lt 30, 3) := by decide +kernel
theorem dX8_year_4 : decode cX8_year 4 = .ok (.iload_n 1, 1) := by decide +kernel
theorem dX8_year_5 : decode cX8_year 5 = .ok (.sipush 1000, 3) := by decide +kernel
theorem dX8_year_8 : decode cX8_year 8 = .ok (.if_icmp .ge 23, 3) := by decide +kernel
theorem dX8_year_11 : decode cX8_year 11 = .ok (.iload_n 2, 1) := by decide +kernel
theorem dX8_year_12 : decode cX8_year 12 = .ok (.iconst 1, 1) := by decide +kernel
theorem dX8_year_13 : decode cX8_year 13 = .ok (.if_icmp .lt 18, 3) := by decide +kernel
theorem dX8_year_16 : decode cX8_year 16 = .ok (.iload_n 2, 1) := by decide +kernel
theorem dX8_year_17 : decode cX8_year 17 = .ok (.bipush 100, 2) := by decide +kernel
theorem dX8_year_19 : decode cX8_year 19 = .ok (.if_icmp .gt 12, 3) := by decide +kernel
theorem dX8_year_22 : decode cX8_year 22 = .ok (.iload_n 3, 1) := by decide +kernel
theorem dX8_year_23 : decode cX8_year 23 = .ok (.ifCond .eq 10, 3) := by decide +kernel
theorem dX8_year_26 : decode cX8_year 26 = .ok (.iload_n 3, 1) := by decide +kernel
theorem dX8_year_27 : decode cX8_year 27 = .ok (.iconst 1, 1) := by decide +kernel
theorem dX8_year_28 : decode cX8_year 28 = .ok (.if_icmp .eq 5, 3) := by decide +kernel
theorem dX8_year_31 : decode cX8_year 31 = .ok (.iconst (-1), 1) := by decide +kernel
theorem dX8_year_32 : decode cX8_year 32 = .ok (.ireturn, 1) := by decide +kernel
theorem dX8_year_33 : decode cX8_year 33 = .ok (.iconst 0, 1) := by decide +kernel
theorem dX8_year_34 : decode cX8_year 34 = .ok (.istore 4, 2) := by decide +kernel
theorem dX8_year_36 : decode cX8_year 36 = .ok (.iconst 0, 1) := by decide +kernel
theorem dX8_year_37 : decode cX8_year 37 = .ok (.istore 5, 2) := by decide +kernel
theorem dX8_year_39 : decode cX8_year 39 = .ok (.iload_n 1, 1) := by decide +kernel
theorem dX8_year_40 : decode cX8_year 40 = .ok (.istore 6, 2) := by decide +kernel
theorem dX8_year_42 : decode cX8_year 42 = .ok (.iload 6, 2) := by decide +kernel
theorem dX8_year_44 : decode cX8_year 44 = .ok (.iload_n 1, 1) := by decide +kernel
theorem dX8_year_45 : decode cX8_year 45 = .ok (.iload_n 2, 1) := by decide +kernel
theorem dX8_year_46 : decode cX8_year 46 = .ok (.iadd, 1) := by decide +kernel
theorem dX8_year_47 : decode cX8_year 47 = .ok (.if_icmp .ge 59, 3) := by decide +kernel
theorem dX8_year_50 : decode cX8_year 50 = .ok (.aload_n 0, 1) := by decide +kernel
theorem dX8_year_51 : decode cX8_year 51 = .ok (.iload 6, 2) := by decide +kernel
theorem dX8_year_53 : decode cX8_year 53 = .ok (.sipush 1000, 3) := by decide +kernel
theorem dX8_year_56 : decode cX8_year 56 = .ok (.irem, 1) := by decide +kernel
theorem dX8_year_57 : decode cX8_year 57 = .ok (.invokevirtual 242, 3) := by decide +kernel
theorem dX8_year_60 : decode cX8_year 60 = .ok (.iload 4, 2) := by decide +kernel
theorem dX8_year_62 : decode cX8_year 62 = .ok (.aload_n 0, 1) := by decide +kernel
theorem dX8_year_63 : decode cX8_year 63 = .ok (.getfield 79, 3) := by decide +kernel
theorem dX8_year_66 : decode cX8_year 66 = .ok (.aload_n 0, 1) := by decide +kernel
theorem dX8_year_67 : decode cX8_year 67 = .ok (.getfield 70, 3) := by decide +kernel
theorem dX8_year_70 : decode cX8_year 70 = .ok (.invokevirtual 166, 3) := by decide +kernel
theorem dX8_year_73 : decode cX8_year 73 = .ok (.ifCond .eq 7, 3) := by decide +kernel
theorem dX8_year_76 : decode cX8_year 76 = .ok (.iconst 1, 1) := by decide +kernel
theorem dX8_year_77 : decode cX8_year 77 = .ok (.goto 4, 3) := by decide +kernel
theorem dX8_year_80 : decode cX8_year 80 = .ok (.iconst 0, 1) := by decide +kernel
theorem dX8_year_81 : decode cX8_year 81 = .ok (.iadd, 1) := by decide +kernel
theorem dX8_year_82 : decode cX8_year 82 = .ok (.istore 4, 2) := by decide +kernel
theorem dX8_year_84 : decode cX8_year 84 = .ok (.iload 5, 2) := by decide +kernel
theorem dX8_year_86 : decode cX8_year 86 = .ok (.aload_n 0, 1) := by decide +kernel
theorem dX8_year_87 : decode cX8_year 87 = .ok (.getfield 79, 3) := by decide +kernel
theorem dX8_year_90 : decode cX8_year 90 = .ok (.aload_n 0, 1) := by decide +kernel
theorem dX8_year_91 : decode cX8_year 91 = .ok (.getfield 70, 3) := by decide +kernel
theorem dX8_year_94 : decode cX8_year 94 = .ok (.invokevirtual 158, 3) := by decide +kernel
theorem dX8_year_97 : decode cX8_year 97 = .ok (.iadd, 1) := by decide +kernel
theorem dX8_year_98 : decode cX8_year 98 = .ok (.istore 5, 2) := by decide +kernel
theorem dX8_year_100 : decode cX8_year 100 = .ok (.iinc 6 1, 3) := by decide +kernel
theorem dX8_year_103 : decode cX8_year 103 = .ok (.goto (-61), 3) := by decide +kernel
theorem dX8_year_106 : decode cX8_year 106 = .ok (.iload_n 3, 1) := by decide +kernel
theorem dX8_year_107 : decode cX8_year 107 = .ok (.ifCond .ne 8, 3) := by decide +kernel
theorem dX8_year_110 : decode cX8_year 110 = .ok (.iload 4, 2) := by decide +kernel
theorem dX8_year_112 : decode cX8_year 112 = .ok (.goto 5, 3) := by decide +kernel
theorem dX8_year_115 : decode cX8_year 115 = .ok (.iload 5, 2) := by decide +kernel
theorem dX8_year_117 : decode cX8_year 117 = .ok (.ireturn, 1) := by decide +kernel
theorem dX8_keep_0 : decode cX8_keep 0 = .ok (.aload_n 0, 1) := by decide +kernel
theorem dX8_keep_1 : decode cX8_keep 1 = .ok (.getfield 32, 3) := by decide +kernel
theorem dX8_keep_4 : decode cX8_keep 4 = .ok (.getfield 181, 3) := by decide +kernel
theorem dX8_keep_7 : decode cX8_keep 7 = .ok (.iconst 2, 1) := by decide +kernel
theorem dX8_keep_8 : decode cX8_keep 8 = .ok (.if_icmp .lt 6, 3) := by decide +kernel
theorem dX8_keep_11 : decode cX8_keep 11 = .ok (.bipush (-3), 2) := by decide +kernel
theorem dX8_keep_13 : decode cX8_keep 13 = .ok (.ireturn, 1) := by decide +kernel
theorem dX8_keep_14 : decode cX8_keep 14 = .ok (.aload_n 0, 1) := by decide +kernel
theorem dX8_keep_15 : decode cX8_keep 15 = .ok (.getfield 32, 3) := by decide +kernel
theorem dX8_keep_18 : decode cX8_keep 18 = .ok (.aload_n 0, 1) := by decide +kernel
theorem dX8_keep_19 : decode cX8_keep 19 = .ok (.getfield 19, 3) := by decide +kernel
theorem dX8_keep_22 : decode cX8_keep 22 = .ok (.invokevirtual 170, 3) := by decide +kernel
theorem dX8_keep_25 : decode cX8_keep 25 = .ok (.aload_n 0, 1) := by decide +kernel
theorem dX8_keep_26 : decode cX8_keep 26 = .ok (.getfield 32, 3) := by decide +kernel
theorem dX8_keep_29 : decode cX8_keep 29 = .ok (.getfield 181, 3) := by decide +kernel
theorem dX8_keep_32 : decode cX8_keep 32 = .ok (.ireturn, 1) := by decide +kernel
theorem dX8_back_0 : decode cX8_back 0 = .ok (.aload_n 0, 1) := by decide +kernel
theorem dX8_back_1 : decode cX8_back 1 = .ok (.getfield 32, 3) := by decide +kernel
theorem dX8_back_4 : decode cX8_back 4 = .ok (.getfield 181, 3) := by decide +kernel
theorem dX8_back_7 : decode cX8_back 7 = .ok (.ifCond .ne 6, 3) := by decide +kernel
theorem dX8_back_10 : decode cX8_back 10 = .ok (.bipush (-2), 2) := by decide +kernel
theorem dX8_back_12 : decode cX8_back 12 = .ok (.ireturn, 1) := by decide +kernel
theorem dX8_back_13 : decode cX8_back 13 = .ok (.aload_n 0, 1) := by decide +kernel
theorem dX8_back_14 : decode cX8_back 14 = .ok (.getfield 32, 3) := by decide +kernel
theorem dX8_back_17 : decode cX8_back 17 = .ok (.aload_n 0, 1) := by decide +kernel
theorem dX8_back_18 : decode cX8_back 18 = .ok (.getfield 19, 3) := by decide +kernel
theorem dX8_back_21 : decode cX8_back 21 = .ok (.invokevirtual 182, 3) := by decide +kernel
theorem dX8_back_24 : decode cX8_back 24 = .ok (.aload_n 0, 1) := by decide +kernel
theorem dX8_back_25 : decode cX8_back 25 = .ok (.getfield 28, 3) := by decide +kernel
theorem dX8_back_28 : decode cX8_back 28 = .ok (.invokevirtual 114, 3) := by decide +kernel
theorem dX8_back_31 : decode cX8_back 31 = .ok (.aload_n 0, 1) := by decide +kernel
theorem dX8_back_32 : decode cX8_back 32 = .ok (.getfield 32, 3) := by decide +kernel
theorem dX8_back_35 : decode cX8_back 35 = .ok (.getfield 181, 3) := by decide +kernel
theorem dX8_back_38 : decode cX8_back 38 = .ok (.ireturn, 1) := by decide +kernel
theorem dX8_count_0 : decode cX8_count 0 = .ok (.iload_n 1, 1) := by decide +kernel
theorem dX8_count_1 : decode cX8_count 1 = .ok (.tableswitch 111 0 7 #[47, 55, 63, 71, 79, 87, 95, 103], 47) := by decide +kernel
theorem dX8_count_48 : decode cX8_count 48 = .ok (.aload_n 0, 1) := by decide +kernel
theorem dX8_count_49 : decode cX8_count 49 = .ok (.getfield 79, 3) := by decide +kernel
theorem dX8_count_52 : decode cX8_count 52 = .ok (.getfield 245, 3) := by decide +kernel
theorem dX8_count_55 : decode cX8_count 55 = .ok (.ireturn, 1) := by decide +kernel
theorem dX8_count_56 : decode cX8_count 56 = .ok (.aload_n 0, 1) := by decide +kernel
theorem dX8_count_57 : decode cX8_count 57 = .ok (.getfield 79, 3) := by decide +kernel
theorem dX8_count_60 : decode cX8_count 60 = .ok (.getfield 108, 3) := by decide +kernel
theorem dX8_count_63 : decode cX8_count 63 = .ok (.ireturn, 1) := by decide +kernel
theorem dX8_count_64 : decode cX8_count 64 = .ok (.aload_n 0, 1) := by decide +kernel
theorem dX8_count_65 : decode cX8_count 65 = .ok (.getfield 79, 3) := by decide +kernel
theorem dX8_count_68 : decode cX8_count 68 = .ok (.getfield 248, 3) := by decide +kernel
theorem dX8_count_71 : decode cX8_count 71 = .ok (.ireturn, 1) := by decide +kernel
theorem dX8_count_72 : decode cX8_count 72 = .ok (.aload_n 0, 1) := by decide +kernel
theorem dX8_count_73 : decode cX8_count 73 = .ok (.getfield 38, 3) := by decide +kernel
theorem dX8_count_76 : decode cX8_count 76 = .ok (.getfield 117, 3) := by decide +kernel
theorem dX8_count_79 : decode cX8_count 79 = .ok (.ireturn, 1) := by decide +kernel
theorem dX8_count_80 : decode cX8_count 80 = .ok (.aload_n 0, 1) := by decide +kernel
theorem dX8_count_81 : decode cX8_count 81 = .ok (.getfield 45, 3) := by decide +kernel
theorem dX8_count_84 : decode cX8_count 84 = .ok (.getfield 120, 3) := by decide +kernel
theorem dX8_count_87 : decode cX8_count 87 = .ok (.ireturn, 1) := by decide +kernel
theorem dX8_count_88 : decode cX8_count 88 = .ok (.aload_n 0, 1) := by decide +kernel
theorem dX8_count_89 : decode cX8_count 89 = .ok (.getfield 28, 3) := by decide +kernel
theorem dX8_count_92 : decode cX8_count 92 = .ok (.getfield 181, 3) := by decide +kernel
theorem dX8_count_95 : decode cX8_count 95 = .ok (.ireturn, 1) := by decide +kernel
theorem dX8_count_96 : decode cX8_count 96 = .ok (.aload_n 0, 1) := by decide +kernel
theorem dX8_count_97 : decode cX8_count 97 = .ok (.getfield 32, 3) := by decide +kernel
theorem dX8_count_100 : decode cX8_count 100 = .ok (.getfield 181, 3) := by decide +kernel
theorem dX8_count_103 : decode cX8_count 103 = .ok (.ireturn, 1) := by decide +kernel
theorem dX8_count_104 : decode cX8_count 104 = .ok (.aload_n 0, 1) := by decide +kernel
theorem dX8_count_105 : decode cX8_count 105 = .ok (.getfield 10, 3) := by decide +kernel
theorem dX8_count_108 : decode cX8_count 108 = .ok (.getfield 105, 3) := by decide +kernel
theorem dX8_count_111 : decode cX8_count 111 = .ok (.ireturn, 1) := by decide +kernel
theorem dX8_count_112 : decode cX8_count 112 = .ok (.iconst (-1), 1) := by decide +kernel
theorem dX8_count_113 : decode cX8_count 113 = .ok (.ireturn, 1) := by decide +kernel
theorem dX8_isLength_0 : decode cX8_isLength 0 = .ok (.iload_n 0, 1) := by decide +kernel
theorem dX8_isLength_1 : decode cX8_isLength 1 = .ok (.iconst 1, 1) := by decide +kernel
theorem dX8_isLength_2 : decode cX8_isLength 2 = .ok (.if_icmp .lt 14, 3) := by decide +kernel
theorem dX8_isLength_5 : decode cX8_isLength 5 = .ok (.iload_n 0, 1) := by decide +kernel
theorem dX8_isLength_6 : decode cX8_isLength 6 = .ok (.sipush 299, 3) := by decide +kernel
theorem dX8_isLength_9 : decode cX8_isLength 9 = .ok (.if_icmp .gt 7, 3) := by decide +kernel
theorem dX8_isLength_12 : decode cX8_isLength 12 = .ok (.iconst 1, 1) := by decide +kernel
theorem dX8_isLength_13 : decode cX8_isLength 13 = .ok (.goto 4, 3) := by decide +kernel
theorem dX8_isLength_16 : decode cX8_isLength 16 = .ok (.iconst 0, 1) := by decide +kernel
theorem dX8_isLength_17 : decode cX8_isLength 17 = .ok (.ireturn, 1) := by decide +kernel
theorem dX8_slipNow_0 : decode cX8_slipNow 0 = .ok (.iload_n 1, 1) := by decide +kernel
theorem dX8_slipNow_1 : decode cX8_slipNow 1 = .ok (.aload_n 0, 1) := by decide +kernel
theorem dX8_slipNow_2 : decode cX8_slipNow 2 = .ok (.getfield 19, 3) := by decide +kernel
theorem dX8_slipNow_5 : decode cX8_slipNow 5 = .ok (.iload_n 1, 1) := by decide +kernel
theorem dX8_slipNow_6 : decode cX8_slipNow 6 = .ok (.invokevirtual 138, 3) := by decide +kernel
theorem dX8_slipNow_9 : decode cX8_slipNow 9 = .ok (.aload_n 0, 1) := by decide +kernel
theorem dX8_slipNow_10 : decode cX8_slipNow 10 = .ok (.getfield 79, 3) := by decide +kernel
theorem dX8_slipNow_13 : decode cX8_slipNow 13 = .ok (.getfield 251, 3) := by decide +kernel
theorem dX8_slipNow_16 : decode cX8_slipNow 16 = .ok (.invokestatic 254, 3) := by decide +kernel
theorem dX8_slipNow_19 : decode cX8_slipNow 19 = .ok (.ireturn, 1) := by decide +kernel
theorem dX8_lengthNow_0 : decode cX8_lengthNow 0 = .ok (.aload_n 0, 1) := by decide +kernel
theorem dX8_lengthNow_1 : decode cX8_lengthNow 1 = .ok (.getfield 79, 3) := by decide +kernel
theorem dX8_lengthNow_4 : decode cX8_lengthNow 4 = .ok (.iload_n 1, 1) := by decide +kernel
theorem dX8_lengthNow_5 : decode cX8_lengthNow 5 = .ok (.aload_n 0, 1) := by decide +kernel
theorem dX8_lengthNow_6 : decode cX8_lengthNow 6 = .ok (.iload_n 1, 1) := by decide +kernel
theorem dX8_lengthNow_7 : decode cX8_lengthNow 7 = .ok (.invokevirtual 142, 3) := by decide +kernel
theorem dX8_lengthNow_10 : decode cX8_lengthNow 10 = .ok (.invokevirtual 145, 3) := by decide +kernel
theorem dX8_lengthNow_13 : decode cX8_lengthNow 13 = .ok (.aload_n 0, 1) := by decide +kernel
theorem dX8_lengthNow_14 : decode cX8_lengthNow 14 = .ok (.getfield 19, 3) := by decide +kernel
theorem dX8_lengthNow_17 : decode cX8_lengthNow 17 = .ok (.getfield 178, 3) := by decide +kernel
theorem dX8_lengthNow_20 : decode cX8_lengthNow 20 = .ok (.iload_n 1, 1) := by decide +kernel
theorem dX8_lengthNow_21 : decode cX8_lengthNow 21 = .ok (.iaload, 1) := by decide +kernel
theorem dX8_lengthNow_22 : decode cX8_lengthNow 22 = .ok (.iadd, 1) := by decide +kernel
theorem dX8_lengthNow_23 : decode cX8_lengthNow 23 = .ok (.ireturn, 1) := by decide +kernel
theorem dX8_measureNow_0 : decode cX8_measureNow 0 = .ok (.iconst 0, 1) := by decide +kernel
theorem dX8_measureNow_1 : decode cX8_measureNow 1 = .ok (.istore_n 1, 1) := by decide +kernel
theorem dX8_measureNow_2 : decode cX8_measureNow 2 = .ok (.iload_n 1, 1) := by decide +kernel
theorem dX8_measureNow_3 : decode cX8_measureNow 3 = .ok (.aload_n 0, 1) := by decide +kernel
theorem dX8_measureNow_4 : decode cX8_measureNow 4 = .ok (.getfield 79, 3) := by decide +kernel
theorem dX8_measureNow_7 : decode cX8_measureNow 7 = .ok (.getfield 108, 3) := by decide +kernel
theorem dX8_measureNow_10 : decode cX8_measureNow 10 = .ok (.if_icmp .ge 20, 3) := by decide +kernel
theorem dX8_measureNow_13 : decode cX8_measureNow 13 = .ok (.aload_n 0, 1) := by decide +kernel
theorem dX8_measureNow_14 : decode cX8_measureNow 14 = .ok (.getfield 63, 3) := by decide +kernel
theorem dX8_measureNow_17 : decode cX8_measureNow 17 = .ok (.iload_n 1, 1) := by decide +kernel
theorem dX8_measureNow_18 : decode cX8_measureNow 18 = .ok (.aload_n 0, 1) := by decide +kernel
theorem dX8_measureNow_19 : decode cX8_measureNow 19 = .ok (.iload_n 1, 1) := by decide +kernel
theorem dX8_measureNow_20 : decode cX8_measureNow 20 = .ok (.invokevirtual 149, 3) := by decide +kernel
theorem dX8_measureNow_23 : decode cX8_measureNow 23 = .ok (.iastore, 1) := by decide +kernel
theorem dX8_measureNow_24 : decode cX8_measureNow 24 = .ok (.iinc 1 1, 3) := by decide +kernel
theorem dX8_measureNow_27 : decode cX8_measureNow 27 = .ok (.goto (-25), 3) := by decide +kernel
theorem dX8_measureNow_30 : decode cX8_measureNow 30 = .ok (.return_, 1) := by decide +kernel
theorem dX8_cutByBoy_0 : decode cX8_cutByBoy 0 = .ok (.iconst 0, 1) := by decide +kernel
theorem dX8_cutByBoy_1 : decode cX8_cutByBoy 1 = .ok (.istore_n 2, 1) := by decide +kernel
theorem dX8_cutByBoy_2 : decode cX8_cutByBoy 2 = .ok (.iload_n 2, 1) := by decide +kernel
theorem dX8_cutByBoy_3 : decode cX8_cutByBoy 3 = .ok (.aload_n 0, 1) := by decide +kernel
theorem dX8_cutByBoy_4 : decode cX8_cutByBoy 4 = .ok (.getfield 79, 3) := by decide +kernel
theorem dX8_cutByBoy_7 : decode cX8_cutByBoy 7 = .ok (.getfield 108, 3) := by decide +kernel
theorem dX8_cutByBoy_10 : decode cX8_cutByBoy 10 = .ok (.if_icmp .ge 36, 3) := by decide +kernel
theorem dX8_cutByBoy_13 : decode cX8_cutByBoy 13 = .ok (.aload_n 0, 1) := by decide +kernel
theorem dX8_cutByBoy_14 : decode cX8_cutByBoy 14 = .ok (.getfield 70, 3) := by decide +kernel
theorem dX8_cutByBoy_17 : decode cX8_cutByBoy 17 = .ok (.iload_n 2, 1) := by decide +kernel
theorem dX8_cutByBoy_18 : decode cX8_cutByBoy 18 = .ok (.aload_n 0, 1) := by decide +kernel
theorem dX8_cutByBoy_19 : decode cX8_cutByBoy 19 = .ok (.getfield 79, 3) := by decide +kernel
theorem dX8_cutByBoy_22 : decode cX8_cutByBoy 22 = .ok (.iload_n 2, 1) := by decide +kernel
theorem dX8_cutByBoy_23 : decode cX8_cutByBoy 23 = .ok (.iload_n 2, 1) := by decide +kernel
theorem dX8_cutByBoy_24 : decode cX8_cutByBoy 24 = .ok (.aload_n 0, 1) := by decide +kernel
theorem dX8_cutByBoy_25 : decode cX8_cutByBoy 25 = .ok (.getfield 19, 3) := by decide +kernel
theorem dX8_cutByBoy_28 : decode cX8_cutByBoy 28 = .ok (.iload_n 2, 1) := by decide +kernel
theorem dX8_cutByBoy_29 : decode cX8_cutByBoy 29 = .ok (.invokevirtual 138, 3) := by decide +kernel
theorem dX8_cutByBoy_32 : decode cX8_cutByBoy 32 = .ok (.iload_n 1, 1) := by decide +kernel
theorem dX8_cutByBoy_33 : decode cX8_cutByBoy 33 = .ok (.invokestatic 254, 3) := by decide +kernel
theorem dX8_cutByBoy_36 : decode cX8_cutByBoy 36 = .ok (.invokevirtual 145, 3) := by decide +kernel
theorem dX8_cutByBoy_39 : decode cX8_cutByBoy 39 = .ok (.iastore, 1) := by decide +kernel
theorem dX8_cutByBoy_40 : decode cX8_cutByBoy 40 = .ok (.iinc 2 1, 3) := by decide +kernel
theorem dX8_cutByBoy_43 : decode cX8_cutByBoy 43 = .ok (.goto (-41), 3) := by decide +kernel
theorem dX8_cutByBoy_46 : decode cX8_cutByBoy 46 = .ok (.return_, 1) := by decide +kernel
theorem dX8_isClosedByBribing_0 : decode cX8_isClosedByBribing 0 = .ok (.iconst 0, 1) := by decide +kernel
theorem dX8_isClosedByBribing_1 : decode cX8_isClosedByBribing 1 = .ok (.istore_n 2, 1) := by decide +kernel
theorem dX8_isClosedByBribing_2 : decode cX8_isClosedByBribing 2 = .ok (.iload_n 2, 1) := by decide +kernel
theorem dX8_isClosedByBribing_3 : decode cX8_isClosedByBribing 3 = .ok (.aload_n 0, 1) := by decide +kernel
theorem dX8_isClosedByBribing_4 : decode cX8_isClosedByBribing 4 = .ok (.getfield 79, 3) := by decide +kernel
theorem dX8_isClosedByBribing_7 : decode cX8_isClosedByBribing 7 = .ok (.getfield 108, 3) := by decide +kernel
theorem dX8_isClosedByBribing_10 : decode cX8_isClosedByBribing 10 = .ok (.if_icmp .ge 39, 3) := by decide +kernel
theorem dX8_isClosedByBribing_13 : decode cX8_isClosedByBribing 13 = .ok (.aload_n 0, 1) := by decide +kernel
theorem dX8_isClosedByBribing_14 : decode cX8_isClosedByBribing 14 = .ok (.getfield 63, 3) := by decide +kernel
theorem dX8_isClosedByBribing_17 : decode cX8_isClosedByBribing 17 = .ok (.iload_n 2, 1) := by decide +kernel
theorem dX8_isClosedByBribing_18 : decode cX8_isClosedByBribing 18 = .ok (.iload_n 1, 1) := by decide +kernel
theorem dX8_isClosedByBribing_19 : decode cX8_isClosedByBribing 19 = .ok (.iload_n 2, 1) := by decide +kernel
theorem dX8_isClosedByBribing_20 : decode cX8_isClosedByBribing 20 = .ok (.ishr, 1) := by decide +kernel
theorem dX8_isClosedByBribing_21 : decode cX8_isClosedByBribing 21 = .ok (.iconst 1, 1) := by decide +kernel
theorem dX8_isClosedByBribing_22 : decode cX8_isClosedByBribing 22 = .ok (.iand, 1) := by decide +kernel
theorem dX8_isClosedByBribing_23 : decode cX8_isClosedByBribing 23 = .ok (.iconst 1, 1) := by decide +kernel
theorem dX8_isClosedByBribing_24 : decode cX8_isClosedByBribing 24 = .ok (.if_icmp .ne 12, 3) := by decide +kernel
theorem dX8_isClosedByBribing_27 : decode cX8_isClosedByBribing 27 = .ok (.aload_n 0, 1) := by decide +kernel
theorem dX8_isClosedByBribing_28 : decode cX8_isClosedByBribing 28 = .ok (.getfield 67, 3) := by decide +kernel
theorem dX8_isClosedByBribing_31 : decode cX8_isClosedByBribing 31 = .ok (.iload_n 2, 1) := by decide +kernel
theorem dX8_isClosedByBribing_32 : decode cX8_isClosedByBribing 32 = .ok (.iaload, 1) := by decide +kernel
theorem dX8_isClosedByBribing_33 : decode cX8_isClosedByBribing 33 = .ok (.goto 9, 3) := by decide +kernel
theorem dX8_isClosedByBribing_36 : decode cX8_isClosedByBribing 36 = .ok (.aload_n 0, 1) := by decide +kernel
theorem dX8_isClosedByBribing_37 : decode cX8_isClosedByBribing 37 = .ok (.getfield 70, 3) := by decide +kernel
theorem dX8_isClosedByBribing_40 : decode cX8_isClosedByBribing 40 = .ok (.iload_n 2, 1) := by decide +kernel
theorem dX8_isClosedByBribing_41 : decode cX8_isClosedByBribing 41 = .ok (.iaload, 1) := by decide +kernel
theorem dX8_isClosedByBribing_42 : decode cX8_isClosedByBribing 42 = .ok (.iastore, 1) := by decide +kernel
theorem dX8_isClosedByBribing_43 : decode cX8_isClosedByBribing 43 = .ok (.iinc 2 1, 3) := by decide +kernel
theorem dX8_isClosedByBribing_46 : decode cX8_isClosedByBribing 46 = .ok (.goto (-44), 3) := by decide +kernel
theorem dX8_isClosedByBribing_49 : decode cX8_isClosedByBribing 49 = .ok (.aload_n 0, 1) := by decide +kernel
theorem dX8_isClosedByBribing_50 : decode cX8_isClosedByBribing 50 = .ok (.getfield 79, 3) := by decide +kernel
theorem dX8_isClosedByBribing_53 : decode cX8_isClosedByBribing 53 = .ok (.aload_n 0, 1) := by decide +kernel
theorem dX8_isClosedByBribing_54 : decode cX8_isClosedByBribing 54 = .ok (.getfield 63, 3) := by decide +kernel
theorem dX8_isClosedByBribing_57 : decode cX8_isClosedByBribing 57 = .ok (.invokevirtual 166, 3) := by decide +kernel
theorem dX8_isClosedByBribing_60 : decode cX8_isClosedByBribing 60 = .ok (.ireturn, 1) := by decide +kernel
theorem dX8_levelSeams_0 : decode cX8_levelSeams 0 = .ok (.iconst 0, 1) := by decide +kernel
theorem dX8_levelSeams_1 : decode cX8_levelSeams 1 = .ok (.istore_n 1, 1) := by decide +kernel
theorem dX8_levelSeams_2 : decode cX8_levelSeams 2 = .ok (.iload_n 1, 1) := by decide +kernel
theorem dX8_levelSeams_3 : decode cX8_levelSeams 3 = .ok (.aload_n 0, 1) := by decide +kernel
theorem dX8_levelSeams_4 : decode cX8_levelSeams 4 = .ok (.getfield 79, 3) := by decide +kernel
theorem dX8_levelSeams_7 : decode cX8_levelSeams 7 = .ok (.getfield 108, 3) := by decide +kernel
theorem dX8_levelSeams_10 : decode cX8_levelSeams 10 = .ok (.if_icmp .ge 21, 3) := by decide +kernel
theorem dX8_levelSeams_13 : decode cX8_levelSeams 13 = .ok (.aload_n 0, 1) := by decide +kernel
theorem dX8_levelSeams_14 : decode cX8_levelSeams 14 = .ok (.getfield 73, 3) := by decide +kernel
theorem dX8_levelSeams_17 : decode cX8_levelSeams 17 = .ok (.iload_n 1, 1) := by decide +kernel
theorem dX8_levelSeams_18 : decode cX8_levelSeams 18 = .ok (.aload_n 0, 1) := by decide +kernel
theorem dX8_levelSeams_19 : decode cX8_levelSeams 19 = .ok (.getfield 63, 3) := by decide +kernel
theorem dX8_levelSeams_22 : decode cX8_levelSeams 22 = .ok (.iload_n 1, 1) := by decide +kernel
theorem dX8_levelSeams_23 : decode cX8_levelSeams 23 = .ok (.iaload, 1) := by decide +kernel
theorem dX8_levelSeams_24 : decode cX8_levelSeams 24 = .ok (.iastore, 1) := by decide +kernel
theorem dX8_levelSeams_25 : decode cX8_levelSeams 25 = .ok (.iinc 1 1, 3) := by decide +kernel
theorem dX8_levelSeams_28 : decode cX8_levelSeams 28 = .ok (.goto (-26), 3) := by decide +kernel
theorem dX8_levelSeams_31 : decode cX8_levelSeams 31 = .ok (.iconst 1, 1) := by decide +kernel
theorem dX8_levelSeams_32 : decode cX8_levelSeams 32 = .ok (.istore_n 1, 1) := by decide +kernel
theorem dX8_levelSeams_33 : decode cX8_levelSeams 33 = .ok (.iload_n 1, 1) := by decide +kernel
theorem dX8_levelSeams_34 : decode cX8_levelSeams 34 = .ok (.aload_n 0, 1) := by decide +kernel
theorem dX8_levelSeams_35 : decode cX8_levelSeams 35 = .ok (.getfield 79, 3) := by decide +kernel
theorem dX8_levelSeams_38 : decode cX8_levelSeams 38 = .ok (.getfield 108, 3) := by decide +kernel
theorem dX8_levelSeams_41 : decode cX8_levelSeams 41 = .ok (.if_icmp .ge 90, 3) := by decide +kernel
theorem dX8_levelSeams_44 : decode cX8_levelSeams 44 = .ok (.iconst 0, 1) := by decide +kernel
theorem dX8_levelSeams_45 : decode cX8_levelSeams 45 = .ok (.istore_n 2, 1) := by decide +kernel
theorem dX8_levelSeams_46 : decode cX8_levelSeams 46 = .ok (.iload_n 2, 1) := by decide +kernel
theorem dX8_levelSeams_47 : decode cX8_levelSeams 47 = .ok (.aload_n 0, 1) := by decide +kernel
theorem dX8_levelSeams_48 : decode cX8_levelSeams 48 = .ok (.getfield 79, 3) := by decide +kernel
theorem dX8_levelSeams_51 : decode cX8_levelSeams 51 = .ok (.getfield 248, 3) := by decide +kernel
theorem dX8_levelSeams_54 : decode cX8_levelSeams 54 = .ok (.if_icmp .ge 71, 3) := by decide +kernel
theorem dX8_levelSeams_57 : decode cX8_levelSeams 57 = .ok (.aload_n 0, 1) := by decide +kernel
theorem dX8_levelSeams_58 : decode cX8_levelSeams 58 = .ok (.getfield 73, 3) := by decide +kernel
theorem dX8_levelSeams_61 : decode cX8_levelSeams 61 = .ok (.aload_n 0, 1) := by decide +kernel
theorem dX8_levelSeams_62 : decode cX8_levelSeams 62 = .ok (.getfield 79, 3) := by decide +kernel
theorem dX8_levelSeams_65 : decode cX8_levelSeams 65 = .ok (.getfield 230, 3) := by decide +kernel
theorem dX8_levelSeams_68 : decode cX8_levelSeams 68 = .ok (.iload_n 2, 1) := by decide +kernel
theorem dX8_levelSeams_69 : decode cX8_levelSeams 69 = .ok (.iaload, 1) := by decide +kernel
theorem dX8_levelSeams_70 : decode cX8_levelSeams 70 = .ok (.iaload, 1) := by decide +kernel
theorem dX8_levelSeams_71 : decode cX8_levelSeams 71 = .ok (.aload_n 0, 1) := by decide +kernel
theorem dX8_levelSeams_72 : decode cX8_levelSeams 72 = .ok (.getfield 73, 3) := by decide +kernel
theorem dX8_levelSeams_75 : decode cX8_levelSeams 75 = .ok (.aload_n 0, 1) := by decide +kernel
theorem dX8_levelSeams_76 : decode cX8_levelSeams 76 = .ok (.getfield 79, 3) := by decide +kernel
theorem dX8_levelSeams_79 : decode cX8_levelSeams 79 = .ok (.getfield 233, 3) := by decide +kernel
theorem dX8_levelSeams_82 : decode cX8_levelSeams 82 = .ok (.iload_n 2, 1) := by decide +kernel
theorem dX8_levelSeams_83 : decode cX8_levelSeams 83 = .ok (.iaload, 1) := by decide +kernel
theorem dX8_levelSeams_84 : decode cX8_levelSeams 84 = .ok (.iaload, 1) := by decide +kernel
theorem dX8_levelSeams_85 : decode cX8_levelSeams 85 = .ok (.invokestatic 258, 3) := by decide +kernel
theorem dX8_levelSeams_88 : decode cX8_levelSeams 88 = .ok (.istore_n 3, 1) := by decide +kernel
theorem dX8_levelSeams_89 : decode cX8_levelSeams 89 = .ok (.aload_n 0, 1) := by decide +kernel
theorem dX8_levelSeams_90 : decode cX8_levelSeams 90 = .ok (.getfield 73, 3) := by decide +kernel
theorem dX8_levelSeams_93 : decode cX8_levelSeams 93 = .ok (.aload_n 0, 1) := by decide +kernel
theorem dX8_levelSeams_94 : decode cX8_levelSeams 94 = .ok (.getfield 79, 3) := by decide +kernel
theorem dX8_levelSeams_97 : decode cX8_levelSeams 97 = .ok (.getfield 230, 3) := by decide +kernel
theorem dX8_levelSeams_100 : decode cX8_levelSeams 100 = .ok (.iload_n 2, 1) := by decide +kernel
theorem dX8_levelSeams_101 : decode cX8_levelSeams 101 = .ok (.iaload, 1) := by decide +kernel
theorem dX8_levelSeams_102 : decode cX8_levelSeams 102 = .ok (.iload_n 3, 1) := by decide +kernel
theorem dX8_levelSeams_103 : decode cX8_levelSeams 103 = .ok (.iastore, 1) := by decide +kernel
theorem dX8_levelSeams_104 : decode cX8_levelSeams 104 = .ok (.aload_n 0, 1) := by decide +kernel
theorem dX8_levelSeams_105 : decode cX8_levelSeams 105 = .ok (.getfield 73, 3) := by decide +kernel
theorem dX8_levelSeams_108 : decode cX8_levelSeams 108 = .ok (.aload_n 0, 1) := by decide +kernel
theorem dX8_levelSeams_109 : decode cX8_levelSeams 109 = .ok (.getfield 79, 3) := by decide +kernel
theorem dX8_levelSeams_112 : decode cX8_levelSeams 112 = .ok (.getfield 233, 3) := by decide +kernel
theorem dX8_levelSeams_115 : decode cX8_levelSeams 115 = .ok (.iload_n 2, 1) := by decide +kernel
theorem dX8_levelSeams_116 : decode cX8_levelSeams 116 = .ok (.iaload, 1) := by decide +kernel
theorem dX8_levelSeams_117 : decode cX8_levelSeams 117 = .ok (.iload_n 3, 1) := by decide +kernel
theorem dX8_levelSeams_118 : decode cX8_levelSeams 118 = .ok (.iastore, 1) := by decide +kernel
theorem dX8_levelSeams_119 : decode cX8_levelSeams 119 = .ok (.iinc 2 1, 3) := by decide +kernel
theorem dX8_levelSeams_122 : decode cX8_levelSeams 122 = .ok (.goto (-76), 3) := by decide +kernel
theorem dX8_levelSeams_125 : decode cX8_levelSeams 125 = .ok (.iinc 1 1, 3) := by decide +kernel
theorem dX8_levelSeams_128 : decode cX8_levelSeams 128 = .ok (.goto (-95), 3) := by decide +kernel
theorem dX8_levelSeams_131 : decode cX8_levelSeams 131 = .ok (.return_, 1) := by decide +kernel
end
section
/-! each instruction, decoded -/
theorem dX9_init_0 : decode cX9_init 0 = .ok (.aload_n 0, 1) := by decide +kernel
theorem dX9_init_1 : decode cX9_init 1 = .ok (.invokespecial 1, 3) := by decide +kernel
theorem dX9_init_4 : decode cX9_init 4 = .ok (.aload_n 0, 1) := by decide +kernel
theorem dX9_init_5 : decode cX9_init 5 = .ok (.sipush 300, 3) := by decide +kernel
theorem dX9_init_8 : decode cX9_init 8 = .ok (.newarray .byte, 2) := by decide +kernel
theorem dX9_init_10 : decode cX9_init 10 = .ok (.putfield 7, 3) := by decide +kernel
theorem dX9_init_13 : decode cX9_init 13 = .ok (.aload_n 0, 1) := by decide +kernel
theorem dX9_init_14 : decode cX9_init 14 = .ok (.bipush 6, 2) := by decide +kernel
theorem dX9_init_16 : decode cX9_init 16 = .ok (.newarray .int, 2) := by decide +kernel
theorem dX9_init_18 : decode cX9_init 18 = .ok (.putfield 13, 3) := by decide +kernel
theorem dX9_init_21 : decode cX9_init 21 = .ok (.aload_n 0, 1) := by decide +kernel
theorem dX9_init_22 : decode cX9_init 22 = .ok (.iconst 2, 1) := by decide +kernel
theorem dX9_init_23 : decode cX9_init 23 = .ok (.newarray .int, 2) := by decide +kernel
theorem dX9_init_25 : decode cX9_init 25 = .ok (.putfield 17, 3) := by decide +kernel
theorem dX9_init_28 : decode cX9_init 28 = .ok (.aload_n 0, 1) := by decide +kernel
theorem dX9_init_29 : decode cX9_init 29 = .ok (.bipush 12, 2) := by decide +kernel
theorem dX9_init_31 : decode cX9_init 31 = .ok (.newarray .int, 2) := by decide +kernel
theorem dX9_init_33 : decode cX9_init 33 = .ok (.putfield 20, 3) := by decide +kernel
theorem dX9_init_36 : decode cX9_init 36 = .ok (.aload_n 0, 1) := by decide +kernel
theorem dX9_init_37 : decode cX9_init 37 = .ok (.iconst 2, 1) := by decide +kernel
theorem dX9_init_38 : decode cX9_init 38 = .ok (.newarray .int, 2) := by decide +kernel
theorem dX9_init_40 : decode cX9_init 40 = .ok (.putfield 23, 3) := by decide +kernel
theorem dX9_init_43 : decode cX9_init 43 = .ok (.aload_n 0, 1) := by decide +kernel
theorem dX9_init_44 : decode cX9_init 44 = .ok (.bipush 42, 2) := by decide +kernel
theorem dX9_init_46 : decode cX9_init 46 = .ok (.newarray .int, 2) := by decide +kernel
theorem dX9_init_48 : decode cX9_init 48 = .ok (.putfield 26, 3) := by decide +kernel
theorem dX9_init_51 : decode cX9_init 51 = .ok (.aload_n 0, 1) := by decide +kernel
theorem dX9_init_52 : decode cX9_init 52 = .ok (.iconst 2, 1) := by decide +kernel
theorem dX9_init_53 : decode cX9_init 53 = .ok (.newarray .int, 2) := by decide +kernel
theorem dX9_init_55 : decode cX9_init 55 = .ok (.putfield 29, 3) := by decide +kernel
theorem dX9_init_58 : decode cX9_init 58 = .ok (.aload_n 0, 1) := by decide +kernel
theorem dX9_init_59 : decode cX9_init 59 = .ok (.bipush 40, 2) := by decide +kernel
theorem dX9_init_61 : decode cX9_init 61 = .ok (.newarray .int, 2) := by decide +kernel
theorem dX9_init_63 : decode cX9_init 63 = .ok (.putfield 32, 3) := by decide +kernel
theorem dX9_init_66 : decode cX9_init 66 = .ok (.aload_n 0, 1) := by decide +kernel
theorem dX9_init_67 : decode cX9_init 67 = .ok (.sipush 154, 3) := by decide +kernel
theorem dX9_init_70 : decode cX9_init 70 = .ok (.newarray .int, 2) := by decide +kernel
theorem dX9_init_72 : decode cX9_init 72 = .ok (.putfield 35, 3) := by decide +kernel
theorem dX9_init_75 : decode cX9_init 75 = .ok (.aload_n 0, 1) := by decide +kernel
theorem dX9_init_76 : decode cX9_init 76 = .ok (.bipush 30, 2) := by decide +kernel
theorem dX9_init_78 : decode cX9_init 78 = .ok (.newarray .int, 2) := by decide +kernel
theorem dX9_init_80 : decode cX9_init 80 = .ok (.putfield 38, 3) := by decide +kernel
theorem dX9_init_83 : decode cX9_init 83 = .ok (.aload_n 0, 1) := by decide +kernel
theorem dX9_init_84 : decode cX9_init 84 = .ok (.bipush 12, 2) := by decide +kernel
theorem dX9_init_86 : decode cX9_init 86 = .ok (.newarray .int, 2) := by decide +kernel
theorem dX9_init_88 : decode cX9_init 88 = .ok (.putfield 41, 3) := by decide +kernel
theorem dX9_init_91 : decode cX9_init 91 = .ok (.aload_n 0, 1) := by decide +kernel
theorem dX9_init_92 : decode cX9_init 92 = .ok (.bipush 7, 2) := by decide +kernel
theorem dX9_init_94 : decode cX9_init 94 = .ok (.newarray .int, 2) := by decide +kernel
theorem dX9_init_96 : decode cX9_init 96 = .ok (.putfield 44, 3) := by decide +kernel
theorem dX9_init_99 : decode cX9_init 99 = .ok (.aload_n 0, 1) := by decide +kernel
theorem dX9_init_100 : decode cX9_init 100 = .ok (.bipush 7, 2) := by decide +kernel
theorem dX9_init_102 : decode cX9_init 102 = .ok (.newarray .int, 2) := by decide +kernel
theorem dX9_init_104 : decode cX9_init 104 = .ok (.putfield 47, 3) := by decide +kernel
theorem dX9_init_107 : decode cX9_init 107 = .ok (.aload_n 0, 1) := by decide +kernel
theorem dX9_init_108 : decode cX9_init 108 = .ok (.bipush 7, 2) := by decide +kernel
theorem dX9_init_110 : decode cX9_init 110 = .ok (.newarray .int, 2) := by decide +kernel
theorem dX9_init_112 : decode cX9_init 112 = .ok (.putfield 50, 3) := by decide +kernel
theorem dX9_init_115 : decode cX9_init 115 = .ok (.aload_n 0, 1) := by decide +kernel
theorem dX9_init_116 : decode cX9_init 116 = .ok (.bipush 7, 2) := by decide +kernel
theorem dX9_init_118 : decode cX9_init 118 = .ok (.newarray .int, 2) := by decide +kernel
theorem dX9_init_120 : decode cX9_init 120 = .ok (.putfield 53, 3) := by decide +kernel
theorem dX9_init_123 : decode cX9_init 123 = .ok (.aload_n 0, 1) := by decide +kernel
theorem dX9_init_124 : decode cX9_init 124 = .ok (.bipush 7, 2) := by decide +kernel
theorem dX9_init_126 : decode cX9_init 126 = .ok (.newarray .int, 2) := by decide +kernel
theorem dX9_init_128 : decode cX9_init 128 = .ok (.putfield 56, 3) := by decide +kernel
theorem dX9_init_131 : decode cX9_init 131 = .ok (.aload_n 0, 1) := by decide +kernel
theorem dX9_init_132 : decode cX9_init 132 = .ok (.iconst 3, 1) := by decide +kernel
theorem dX9_init_133 : decode cX9_init 133 = .ok (.newarray .int, 2) := by decide +kernel
theorem dX9_init_135 : decode cX9_init 135 = .ok (.putfield 59, 3) := by decide +kernel
theorem dX9_init_138 : decode cX9_init 138 = .ok (.aload_n 0, 1) := by decide +kernel
theorem dX9_init_139 : decode cX9_init 139 = .ok (.invokevirtual 62, 3) := by decide +kernel
theorem dX9_init_142 : decode cX9_init 142 = .ok (.aload_n 0, 1) := by decide +kernel
theorem dX9_init_143 : decode cX9_init 143 = .ok (.getfield 17, 3) := by decide +kernel
theorem dX9_init_146 : decode cX9_init 146 = .ok (.iconst 1, 1) := by decide +kernel
theorem dX9_init_147 : decode cX9_init 147 = .ok (.iconst 2, 1) := by decide +kernel
theorem dX9_init_148 : decode cX9_init 148 = .ok (.iastore, 1) := by decide +kernel
theorem dX9_init_149 : decode cX9_init 149 = .ok (.aload_n 0, 1) := by decide +kernel
theorem dX9_init_150 : decode cX9_init 150 = .ok (.getfield 20, 3) := by decide +kernel
theorem dX9_init_153 : decode cX9_init 153 = .ok (.bipush 6, 2) := by decide +kernel
theorem dX9_init_155 : decode cX9_init 155 = .ok (.bipush 100, 2) := by decide +kernel
theorem dX9_init_157 : decode cX9_init 157 = .ok (.iastore, 1) := by decide +kernel
theorem dX9_init_158 : decode cX9_init 158 = .ok (.aload_n 0, 1) := by decide +kernel
theorem dX9_init_159 : decode cX9_init 159 = .ok (.getfield 20, 3) := by decide +kernel
theorem dX9_init_162 : decode cX9_init 162 = .ok (.bipush 7, 2) := by decide +kernel
theorem dX9_init_164 : decode cX9_init 164 = .ok (.bipush 110, 2) := by decide +kernel
theorem dX9_init_166 : decode cX9_init 166 = .ok (.iastore, 1) := by decide +kernel
theorem dX9_init_167 : decode cX9_init 167 = .ok (.aload_n 0, 1) := by decide +kernel
theorem dX9_init_168 : decode cX9_init 168 = .ok (.getfield 23, 3) := by decide +kernel
theorem dX9_init_171 : decode cX9_init 171 = .ok (.iconst 1, 1) := by decide +kernel
theorem dX9_init_172 : decode cX9_init 172 = .ok (.iconst 2, 1) := by decide +kernel
theorem dX9_init_173 : decode cX9_init 173 = .ok (.iastore, 1) := by decide +kernel
theorem dX9_init_174 : decode cX9_init 174 = .ok (.aload_n 0, 1) := by decide +kernel
theorem dX9_init_175 : decode cX9_init 175 = .ok (.getfield 26, 3) := by decide +kernel
theorem dX9_init_178 : decode cX9_init 178 = .ok (.bipush 22, 2) := by decide +kernel
theorem dX9_init_180 : decode cX9_init 180 = .ok (.bipush 60, 2) := by decide +kernel
theorem dX9_init_182 : decode cX9_init 182 = .ok (.iastore, 1) := by decide +kernel
theorem dX9_init_183 : decode cX9_init 183 = .ok (.aload_n 0, 1) := by decide +kernel
theorem dX9_init_184 : decode cX9_init 184 = .ok (.getfield 26, 3) := by decide +kernel
theorem dX9_init_187 : decode cX9_init 187 = .ok (.bipush 23, 2) := by decide +kernel
theorem dX9_init_189 : decode cX9_init 189 = .ok (.iconst 5, 1) := by decide +kernel
theorem dX9_init_190 : decode cX9_init 190 = .ok (.iastore, 1) := by decide +kernel
theorem dX9_init_191 : decode cX9_init 191 = .ok (.aload_n 0, 1) := by decide +kernel
theorem dX9_init_192 : decode cX9_init 192 = .ok (.getfield 26, 3) := by decide +kernel
theorem dX9_init_195 : decode cX9_init 195 = .ok (.bipush 24, 2) := by decide +kernel
theorem dX9_init_197 : decode cX9_init 197 = .ok (.iconst 1, 1) := by decide +kernel
theorem dX9_init_198 : decode cX9_init 198 = .ok (.iastore, 1) := by decide +kernel
theorem dX9_init_199 : decode cX9_init 199 = .ok (.aload_n 0, 1) := by decide +kernel
theorem dX9_init_200 : decode cX9_init 200 = .ok (.getfield 26, 3) := by decide +kernel
theorem dX9_init_203 : decode cX9_init 203 = .ok (.bipush 25, 2) := by decide +kernel
theorem dX9_init_205 : decode cX9_init 205 = .ok (.bipush 60, 2) := by decide +kernel
theorem dX9_init_207 : decode cX9_init 207 = .ok (.iastore, 1) := by decide +kernel
theorem dX9_init_208 : decode cX9_init 208 = .ok (.aload_n 0, 1) := by decide +kernel
theorem dX9_init_209 : decode cX9_init 209 = .ok (.getfield 26, 3) := by decide +kernel
theorem dX9_init_212 : decode cX9_init 212 = .ok (.bipush 26, 2) := by decide +kernel
theorem dX9_init_214 : decode cX9_init 214 = .ok (.iconst 5, 1) := by decide +kernel
theorem dX9_init_215 : decode cX9_init 215 = .ok (.iastore, 1) := by decide +kernel
theorem dX9_init_216 : decode cX9_init 216 = .ok (.aload_n 0, 1) := by decide +kernel
theorem dX9_init_217 : decode cX9_init 217 = .ok (.getfield 29, 3) := by decide +kernel
theorem dX9_init_220 : decode cX9_init 220 = .ok (.iconst 1, 1) := by decide +kernel
theorem dX9_init_221 : decode cX9_init 221 = .ok (.iconst 1, 1) := by decide +kernel
theorem dX9_init_222 : decode cX9_init 222 = .ok (.iastore, 1) := by decide +kernel
theorem dX9_init_223 : decode cX9_init 223 = .ok (.aload_n 0, 1) := by decide +kernel
theorem dX9_init_224 : decode cX9_init 224 = .ok (.getfield 32, 3) := by decide +kernel
theorem dX9_init_227 : decode cX9_init 227 = .ok (.bipush 20, 2) := by decide +kernel
theorem dX9_init_229 : decode cX9_init 229 = .ok (.iconst 0, 1) := by decide +kernel
theorem dX9_init_230 : decode cX9_init 230 = .ok (.iastore, 1) := by decide +kernel
theorem dX9_init_231 : decode cX9_init 231 = .ok (.aload_n 0, 1) := by decide +kernel
theorem dX9_init_232 : decode cX9_init 232 = .ok (.getfield 32, 3) := by decide +kernel
theorem dX9_init_235 : decode cX9_init 235 = .ok (.bipush 21, 2) := by decide +kernel
theorem dX9_init_237 : decode cX9_init 237 = .ok (.iconst 1, 1) := by decide +kernel
theorem dX9_init_238 : decode cX9_init 238 = .ok (.iastore, 1) := by decide +kernel
theorem dX9_init_239 : decode cX9_init 239 = .ok (.aload_n 0, 1) := by decide +kernel
theorem dX9_init_240 : decode cX9_init 240 = .ok (.invokevirtual 65, 3) := by decide +kernel
theorem dX9_init_243 : decode cX9_init 243 = .ok (.return_, 1) := by decide +kernel
theorem dX9_in_0 : decode cX9_in 0 = .ok (.lload_n 0, 1) := by decide +kernel
theorem dX9_in_1 : decode cX9_in 1 = .ok (.lload_n 2, 1) := by decide +kernel
theorem dX9_in_2 : decode cX9_in 2 = .ok (.lcmp, 1) := by decide +kernel
theorem dX9_in_3 : decode cX9_in 3 = .ok (.ifCond .lt 14, 3) := by decide +kernel
theorem dX9_in_6 : decode cX9_in 6 = .ok (.lload_n 0, 1) := by decide +kernel
theorem dX9_in_7 : decode cX9_in 7 = .ok (.lload 4, 2) := by decide +kernel
theorem dX9_in_9 : decode cX9_in 9 = .ok (.lcmp, 1) := by decide +kernel
theorem dX9_in_10 : decode cX9_in 10 = .ok (.ifCond .gt 7, 3) := by decide +kernel
theorem dX9_in_13 : decode cX9_in 13 = .ok (.iconst 1, 1) := by decide +kernel
theorem dX9_in_14 : decode cX9_in 14 = .ok (.goto 4, 3) := by decide +kernel
theorem dX9_in_17 : decode cX9_in 17 = .ok (.iconst 0, 1) := by decide +kernel
theorem dX9_in_18 : decode cX9_in 18 = .ok (.ireturn, 1) := by decide +kernel
theorem dX9_write_0 : decode cX9_write 0 = .ok (.iload_n 1, 1) := by decide +kernel
theorem dX9_write_1 : decode cX9_write 1 = .ok (.i2l, 1) := by decide +kernel
theorem dX9_write_2 : decode cX9_write 2 = .ok (.lconst 1, 1) := by decide +kernel
theorem dX9_write_3 : decode cX9_write 3 = .ok (.ldc2_w 68, 3) := by decide +kernel
theorem dX9_write_6 : decode cX9_write 6 = .ok (.invokestatic 70, 3) := by decide +kernel
theorem dX9_write_9 : decode cX9_write 9 = .ok (.ifCond .ne 5, 3) := by decide +kernel
theorem dX9_write_12 : decode cX9_write 12 = .ok (.iconst (-1), 1) := by decide +kernel
theorem dX9_write_13 : decode cX9_write 13 = .ok (.ireturn, 1) := by decide +kernel
theorem dX9_write_14 : decode cX9_write 14 = .ok (.aload_n 0, 1) := by decide +kernel
theorem dX9_write_15 : decode cX9_write 15 = .ok (.getfield 74, 3) := by decide +kernel
theorem dX9_write_18 : decode cX9_write 18 = .ok (.iload_n 1, 1) := by decide +kernel
theorem dX9_write_19 : decode cX9_write 19 = .ok (.iadd, 1) := by decide +kernel
theorem dX9_write_20 : decode cX9_write 20 = .ok (.sipush 300, 3) := by decide +kernel
theorem dX9_write_23 : decode cX9_write 23 = .ok (.if_icmp .le 6, 3) := by decide +kernel
theorem dX9_write_26 : decode cX9_write 26 = .ok (.bipush (-3), 2) := by decide +kernel
theorem dX9_write_28 : decode cX9_write 28 = .ok (.ireturn, 1) := by decide +kernel
theorem dX9_write_29 : decode cX9_write 29 = .ok (.iload_n 1, 1) := by decide +kernel
theorem dX9_write_30 : decode cX9_write 30 = .ok (.iconst 1, 1) := by decide +kernel
theorem dX9_write_31 : decode cX9_write 31 = .ok (.isub, 1) := by decide +kernel
theorem dX9_write_32 : decode cX9_write 32 = .ok (.istore 4, 2) := by decide +kernel
theorem dX9_write_34 : decode cX9_write 34 = .ok (.iload 4, 2) := by decide +kernel
theorem dX9_write_36 : decode cX9_write 36 = .ok (.ifCond .lt 37, 3) := by decide +kernel
theorem dX9_write_39 : decode cX9_write 39 = .ok (.aload_n 0, 1) := by decide +kernel
theorem dX9_write_40 : decode cX9_write 40 = .ok (.getfield 7, 3) := by decide +kernel
theorem dX9_write_43 : decode cX9_write 43 = .ok (.aload_n 0, 1) := by decide +kernel
theorem dX9_write_44 : decode cX9_write 44 = .ok (.getfield 74, 3) := by decide +kernel
theorem dX9_write_47 : decode cX9_write 47 = .ok (.lload_n 2, 1) := by decide +kernel
theorem dX9_write_48 : decode cX9_write 48 = .ok (.bipush 8, 2) := by decide +kernel
theorem dX9_write_50 : decode cX9_write 50 = .ok (.iload 4, 2) := by decide +kernel
theorem dX9_write_52 : decode cX9_write 52 = .ok (.imul, 1) := by decide +kernel
theorem dX9_write_53 : decode cX9_write 53 = .ok (.lshr, 1) := by decide +kernel
theorem dX9_write_54 : decode cX9_write 54 = .ok (.l2i, 1) := by decide +kernel
theorem dX9_write_55 : decode cX9_write 55 = .ok (.i2b, 1) := by decide +kernel
theorem dX9_write_56 : decode cX9_write 56 = .ok (.bastore, 1) := by decide +kernel
theorem dX9_write_57 : decode cX9_write 57 = .ok (.aload_n 0, 1) := by decide +kernel
theorem dX9_write_58 : decode cX9_write 58 = .ok (.dup, 1) := by decide +kernel
theorem dX9_write_59 : decode cX9_write 59 = .ok (.getfield 74, 3) := by decide +kernel
theorem dX9_write_62 : decode cX9_write 62 = .ok (.iconst 1, 1) := by decide +kernel
theorem dX9_write_63 : decode cX9_write 63 = .ok (.iadd, 1) := by decide +kernel
theorem dX9_write_64 : decode cX9_write 64 = .ok (.putfield 74, 3) := by decide +kernel
theorem dX9_write_67 : decode cX9_write 67 = .ok (.iinc 4 (-1), 3) := by decide +kernel
theorem dX9_write_70 : decode cX9_write 70 = .ok (.goto (-36), 3) := by decide +kernel
theorem dX9_write_73 : decode cX9_write 73 = .ok (.aload_n 0, 1) := by decide +kernel
theorem dX9_write_74 : decode cX9_write 74 = .ok (.getfield 74, 3) := by decide +kernel
theorem dX9_write_77 : decode cX9_write 77 = .ok (.ireturn, 1) := by decide +kernel
theorem dX9_wipe_0 : decode cX9_wipe 0 = .ok (.aload_n 0, 1) := by decide +kernel
theorem dX9_wipe_1 : decode cX9_wipe 1 = .ok (.getfield 74, 3) := by decide +kernel
theorem dX9_wipe_4 : decode cX9_wipe 4 = .ok (.istore_n 1, 1) := by decide +kernel
theorem dX9_wipe_5 : decode cX9_wipe 5 = .ok (.aload_n 0, 1) := by decide +kernel
theorem dX9_wipe_6 : decode cX9_wipe 6 = .ok (.iconst 0, 1) := by decide +kernel
theorem dX9_wipe_7 : decode cX9_wipe 7 = .ok (.putfield 74, 3) := by decide +kernel
theorem dX9_wipe_10 : decode cX9_wipe 10 = .ok (.iload_n 1, 1) := by decide +kernel
theorem dX9_wipe_11 : decode cX9_wipe 11 = .ok (.ireturn, 1) := by decide +kernel
theorem dX9_number_0 : decode cX9_number 0 = .ok (.iconst 0, 1) := by decide +kernel
theorem dX9_number_1 : decode cX9_number 1 = .ok (.istore_n 1, 1) := by decide +kernel
theorem dX9_number_2 : decode cX9_number 2 = .ok (.iconst 0, 1) := by decide +kernel
theorem dX9_number_3 : decode cX9_number 3 = .ok (.istore_n 2, 1) := by decide +kernel
theorem dX9_number_4 : decode cX9_number 4 = .ok (.aload_n 0, 1) := by decide +kernel
theorem dX9_number_5 : decode cX9_number 5 = .ok (.getfield 78, 3) := by decide +kernel
theorem dX9_number_8 : decode cX9_number 8 = .ok (.aload_n 0, 1) := by decide +kernel
theorem dX9_number_9 : decode cX9_number 9 = .ok (.getfield 74, 3) := by decide +kernel
theorem dX9_number_12 : decode cX9_number 12 = .ok (.if_icmp .ge 68, 3) := by decide +kernel
theorem dX9_number_15 : decode cX9_number 15 = .ok (.aload_n 0, 1) := by decide +kernel
theorem dX9_number_16 : decode cX9_number 16 = .ok (.getfield 7, 3) := by decide +kernel
theorem dX9_number_19 : decode cX9_number 19 = .ok (.aload_n 0, 1) := by decide +kernel
theorem dX9_number_20 : decode cX9_number 20 = .ok (.getfield 78, 3) := by decide +kernel
theorem dX9_number_23 : decode cX9_number 23 = .ok (.baload, 1) := by decide +kernel
theorem dX9_number_24 : decode cX9_number 24 = .ok (.i2l, 1) := by decide +kernel
theorem dX9_number_25 : decode cX9_number 25 = .ok (.ldc2_w 81, 3) := by decide +kernel
theorem dX9_number_28 : decode cX9_number 28 = .ok (.ldc2_w 83, 3) := by decide +kernel
theorem dX9_number_31 : decode cX9_number 31 = .ok (.invokestatic 70, 3) := by decide +kernel
theorem dX9_number_34 : decode cX9_number 34 = .ok (.ifCond .eq 46, 3) := by decide +kernel
theorem dX9_number_37 : decode cX9_number 37 = .ok (.iload_n 2, 1) := by decide +kernel
theorem dX9_number_38 : decode cX9_number 38 = .ok (.iconst 3, 1) := by decide +kernel
theorem dX9_number_39 : decode cX9_number 39 = .ok (.if_icmp .ge 23, 3) := by decide +kernel
theorem dX9_number_42 : decode cX9_number 42 = .ok (.bipush 10, 2) := by decide +kernel
theorem dX9_number_44 : decode cX9_number 44 = .ok (.iload_n 1, 1) := by decide +kernel
theorem dX9_number_45 : decode cX9_number 45 = .ok (.imul, 1) := by decide +kernel
theorem dX9_number_46 : decode cX9_number 46 = .ok (.aload_n 0, 1) := by decide +kernel
theorem dX9_number_47 : decode cX9_number 47 = .ok (.getfield 7, 3) := by decide +kernel
theorem dX9_number_50 : decode cX9_number 50 = .ok (.aload_n 0, 1) := by decide +kernel
theorem dX9_number_51 : decode cX9_number 51 = .ok (.getfield 78, 3) := by decide +kernel
theorem dX9_number_54 : decode cX9_number 54 = .ok (.baload, 1) := by decide +kernel
theorem dX9_number_55 : decode cX9_number 55 = .ok (.iadd, 1) := by decide +kernel
theorem dX9_number_56 : decode cX9_number 56 = .ok (.bipush 48, 2) := by decide +kernel
theorem dX9_number_58 : decode cX9_number 58 = .ok (.isub, 1) := by decide +kernel
theorem dX9_number_59 : decode cX9_number 59 = .ok (.goto 4, 3) := by decide +kernel
theorem dX9_number_62 : decode cX9_number 62 = .ok (.iload_n 1, 1) := by decide +kernel
theorem dX9_number_63 : decode cX9_number 63 = .ok (.istore_n 1, 1) := by decide +kernel
theorem dX9_number_64 : decode cX9_number 64 = .ok (.iinc 2 1, 3) := by decide +kernel
theorem dX9_number_67 : decode cX9_number 67 = .ok (.aload_n 0, 1) := by decide +kernel
theorem dX9_number_68 : decode cX9_number 68 = .ok (.dup, 1) := by decide +kernel
theorem dX9_number_69 : decode cX9_number 69 = .ok (.getfield 78, 3) := by decide +kernel
theorem dX9_number_72 : decode cX9_number 72 = .ok (.iconst 1, 1) := by decide +kernel
theorem dX9_number_73 : decode cX9_number 73 = .ok (.iadd, 1) := by decide +kernel
theorem dX9_number_74 : decode cX9_number 74 = .ok (.putfield 78, 3) := by decide +kernel
theorem dX9_number_77 : decode cX9_number 77 = .ok (.goto (-73), 3) := by decide +kernel
theorem dX9_number_80 : decode cX9_number 80 = .ok (.iload_n 2, 1) := by decide +kernel
theorem dX9_number_81 : decode cX9_number 81 = .ok (.i2l, 1) := by decide +kernel
theorem dX9_number_82 : decode cX9_number 82 = .ok (.lconst 1, 1) := by decide +kernel
theorem dX9_number_83 : decode cX9_number 83 = .ok (.ldc2_w 85, 3) := by decide +kernel
theorem dX9_number_86 : decode cX9_number 86 = .ok (.invokestatic 70, 3) := by decide +kernel
theorem dX9_number_89 : decode cX9_number 89 = .ok (.ifCond .eq 7, 3) := by decide +kernel
theorem dX9_number_92 : decode cX9_number 92 = .ok (.iload_n 1, 1) := by decide +kernel
theorem dX9_number_93 : decode cX9_number 93 = .ok (.goto 4, 3) := by decide +kernel
theorem dX9_number_96 : decode cX9_number 96 = .ok (.iconst (-1), 1) := by decide +kernel
theorem dX9_number_97 : decode cX9_number 97 = .ok (.ireturn, 1) := by decide +kernel
theorem dX9_numbers_0 : decode cX9_numbers 0 = .ok (.iload_n 0, 1) := by decide +kernel
theorem dX9_numbers_1 : decode cX9_numbers 1 = .ok (.bipush 112, 2) := by decide +kernel
theorem dX9_numbers_3 : decode cX9_numbers 3 = .ok (.if_icmp .ne 7, 3) := by decide +kernel
theorem dX9_numbers_6 : decode cX9_numbers 6 = .ok (.iconst 3, 1) := by decide +kernel
theorem dX9_numbers_7 : decode cX9_numbers 7 = .ok (.goto 42, 3) := by decide +kernel
theorem dX9_numbers_10 : decode cX9_numbers 10 = .ok (.iload_n 0, 1) := by decide +kernel
theorem dX9_numbers_11 : decode cX9_numbers 11 = .ok (.bipush 115, 2) := by decide +kernel
theorem dX9_numbers_13 : decode cX9_numbers 13 = .ok (.if_icmp .ne 7, 3) := by decide +kernel
theorem dX9_numbers_16 : decode cX9_numbers 16 = .ok (.iconst 2, 1) := by decide +kernel
theorem dX9_numbers_17 : decode cX9_numbers 17 = .ok (.goto 32, 3) := by decide +kernel
theorem dX9_numbers_20 : decode cX9_numbers 20 = .ok (.iload_n 0, 1) := by decide +kernel
theorem dX9_numbers_21 : decode cX9_numbers 21 = .ok (.bipush 116, 2) := by decide +kernel
theorem dX9_numbers_23 : decode cX9_numbers 23 = .ok (.if_icmp .eq 21, 3) := by decide +kernel
theorem dX9_numbers_26 : decode cX9_numbers 26 = .ok (.iload_n 0, 1) := by decide +kernel
theorem dX9_numbers_27 : decode cX9_numbers 27 = .ok (.bipush 103, 2) := by decide +kernel
theorem dX9_numbers_29 : decode cX9_numbers 29 = .ok (.if_icmp .eq 15, 3) := by decide +kernel
theorem dX9_numbers_32 : decode cX9_numbers 32 = .ok (.iload_n 0, 1) := by decide +kernel
theorem dX9_numbers_33 : decode cX9_numbers 33 = .ok (.bipush 122, 2) := by decide +kernel
theorem dX9_numbers_35 : decode cX9_numbers 35 = .ok (.if_icmp .eq 9, 3) := by decide +kernel
theorem dX9_numbers_38 : decode cX9_numbers 38 = .ok (.iload_n 0, 1) := by decide +kernel
theorem dX9_numbers_39 : decode cX9_numbers 39 = .ok (.bipush 99, 2) := by decide +kernel
theorem dX9_numbers_41 : decode cX9_numbers 41 = .ok (.if_icmp .ne 7, 3) := by decide +kernel
theorem dX9_numbers_44 : decode cX9_numbers 44 = .ok (.iconst 1, 1) := by decide +kernel
theorem dX9_numbers_45 : decode cX9_numbers 45 = .ok (.goto 4, 3) := by decide +kernel
theorem dX9_numbers_48 : decode cX9_numbers 48 = .ok (.iconst 0, 1) := by decide +kernel
theorem dX9_numbers_49 : decode cX9_numbers 49 = .ok (.ireturn, 1) := by decide +kernel
theorem dX9_isItem_0 : decode cX9_isItem 0 = .ok (.aload_n 0, 1) := by decide +kernel
theorem dX9_isItem_1 : decode cX9_isItem 1 = .ok (.getfield 7, 3) := by decide +kernel
theorem dX9_isItem_4 : decode cX9_isItem 4 = .ok (.aload_n 0, 1) := by decide +kernel
theorem dX9_isItem_5 : decode cX9_isItem 5 = .ok (.getfield 78, 3) := by decide +kernel
theorem dX9_isItem_8 : decode cX9_isItem 8 = .ok (.baload, 1) := by decide +kernel
theorem dX9_isItem_9 : decode cX9_isItem 9 = .ok (.istore_n 1, 1) := by decide +kernel
theorem dX9_isItem_10 : decode cX9_isItem 10 = .ok (.aload_n 0, 1) := by decide +kernel
theorem dX9_isItem_11 : decode cX9_isItem 11 = .ok (.dup, 1) := by decide +kernel
theorem dX9_isItem_12 : decode cX9_isItem 12 = .ok (.getfield 78, 3) := by decide +kernel
theorem dX9_isItem_15 : decode cX9_isItem 15 = .ok (.iconst 1, 1) := by decide +kernel
theorem dX9_isItem_16 : decode cX9_isItem 16 = .ok (.iadd, 1) := by decide +kernel
theorem dX9_isItem_17 : decode cX9_isItem 17 = .ok (.putfield 78, 3) := by decide +kernel
theorem dX9_isItem_20 : decode cX9_isItem 20 = .ok (.iload_n 1, 1) := by decide +kernel
theorem dX9_isItem_21 : decode cX9_isItem 21 = .ok (.invokestatic 87, 3) := by decide +kernel
theorem dX9_isItem_24 : decode cX9_isItem 24 = .ok (.istore_n 2, 1) := by decide +kernel
theorem dX9_isItem_25 : decode cX9_isItem 25 = .ok (.iload_n 2, 1) := by decide +kernel
theorem dX9_isItem_26 : decode cX9_isItem 26 = .ok (.ifCond .le 7, 3) := by decide +kernel
theorem dX9_isItem_29 : decode cX9_isItem 29 = .ok (.iconst 1, 1) := by decide +kernel
theorem dX9_isItem_30 : decode cX9_isItem 30 = .ok (.goto 4, 3) := by decide +kernel
theorem dX9_isItem_33 : decode cX9_isItem 33 = .ok (.iconst 0, 1) := by decide +kernel
theorem dX9_isItem_34 : decode cX9_isItem 34 = .ok (.istore_n 3, 1) := by decide +kernel
theorem dX9_isItem_35 : decode cX9_isItem 35 = .ok (.iconst 0, 1) := by decide +kernel
theorem dX9_isItem_36 : decode cX9_isItem 36 = .ok (.istore 4, 2) := by decide +kernel
theorem dX9_isItem_38 : decode cX9_isItem 38 = .ok (.iload 4, 2) := by decide +kernel
theorem dX9_isItem_40 : decode cX9_isItem 40 = .ok (.iload_n 2, 1) := by decide +kernel
theorem dX9_isItem_41 : decode cX9_isItem 41 = .ok (.if_icmp .ge 103, 3) := by decide +kernel
theorem dX9_isItem_44 : decode cX9_isItem 44 = .ok (.iload_n 3, 1) := by decide +kernel
theorem dX9_isItem_45 : decode cX9_isItem 45 = .ok (.ifCond .eq 99, 3) := by decide +kernel
theorem dX9_isItem_48 : decode cX9_isItem 48 = .ok (.iload 4, 2) := by decide +kernel
theorem dX9_isItem_50 : decode cX9_isItem 50 = .ok (.ifCond .eq 28, 3) := by decide +kernel
theorem dX9_isItem_53 : decode cX9_isItem 53 = .ok (.aload_n 0, 1) := by decide +kernel
theorem dX9_isItem_54 : decode cX9_isItem 54 = .ok (.getfield 78, 3) := by decide +kernel
theorem dX9_isItem_57 : decode cX9_isItem 57 = .ok (.aload_n 0, 1) := by decide +kernel
theorem dX9_isItem_58 : decode cX9_isItem 58 = .ok (.getfield 74, 3) := by decide +kernel
theorem dX9_isItem_61 : decode cX9_isItem 61 = .ok (.if_icmp .ge 21, 3) := by decide +kernel
theorem dX9_isItem_64 : decode cX9_isItem 64 = .ok (.aload_n 0, 1) := by decide +kernel
theorem dX9_isItem_65 : decode cX9_isItem 65 = .ok (.getfield 7, 3) := by decide +kernel
theorem dX9_isItem_68 : decode cX9_isItem 68 = .ok (.aload_n 0, 1) := by decide +kernel
theorem dX9_isItem_69 : decode cX9_isItem 69 = .ok (.getfield 78, 3) := by decide +kernel
theorem dX9_isItem_72 : decode cX9_isItem 72 = .ok (.baload, 1) := by decide +kernel
theorem dX9_isItem_73 : decode cX9_isItem 73 = .ok (.bipush 44, 2) := by decide +kernel
theorem dX9_isItem_75 : decode cX9_isItem 75 = .ok (.if_icmp .ne 7, 3) := by decide +kernel
theorem dX9_isItem_78 : decode cX9_isItem 78 = .ok (.iconst 1, 1) := by decide +kernel
theorem dX9_isItem_79 : decode cX9_isItem 79 = .ok (.goto 4, 3) := by decide +kernel
theorem dX9_isItem_82 : decode cX9_isItem 82 = .ok (.iconst 0, 1) := by decide +kernel
theorem dX9_isItem_83 : decode cX9_isItem 83 = .ok (.istore_n 3, 1) := by decide +kernel
theorem dX9_isItem_84 : decode cX9_isItem 84 = .ok (.aload_n 0, 1) := by decide +kernel
theorem dX9_isItem_85 : decode cX9_isItem 85 = .ok (.dup, 1) := by decide +kernel
theorem dX9_isItem_86 : decode cX9_isItem 86 = .ok (.getfield 78, 3) := by decide +kernel
theorem dX9_isItem_89 : decode cX9_isItem 89 = .ok (.iload 4, 2) := by decide +kernel
theorem dX9_isItem_91 : decode cX9_isItem 91 = .ok (.ifCond .ne 7, 3) := by decide +kernel
theorem dX9_isItem_94 : decode cX9_isItem 94 = .ok (.iconst 0, 1) := by decide +kernel
theorem dX9_isItem_95 : decode cX9_isItem 95 = .ok (.goto 4, 3) := by decide +kernel
theorem dX9_isItem_98 : decode cX9_isItem 98 = .ok (.iconst 1, 1) := by decide +kernel
theorem dX9_isItem_99 : decode cX9_isItem 99 = .ok (.iadd, 1) := by decide +kernel
theorem dX9_isItem_100 : decode cX9_isItem 100 = .ok (.putfield 78, 3) := by decide +kernel
theorem dX9_isItem_103 : decode cX9_isItem 103 = .ok (.aload_n 0, 1) := by decide +kernel
theorem dX9_isItem_104 : decode cX9_isItem 104 = .ok (.getfield 59, 3) := by decide +kernel
theorem dX9_isItem_107 : decode cX9_isItem 107 = .ok (.iload 4, 2) := by decide +kernel
theorem dX9_isItem_109 : decode cX9_isItem 109 = .ok (.iload_n 3, 1) := by decide +kernel
theorem dX9_isItem_110 : decode cX9_isItem 110 = .ok (.ifCond .eq 10, 3) := by decide +kernel
theorem dX9_isItem_113 : decode cX9_isItem 113 = .ok (.aload_n 0, 1) := by decide +kernel
theorem dX9_isItem_114 : decode cX9_isItem 114 = .ok (.invokevirtual 91, 3) := by decide +kernel
theorem dX9_isItem_117 : decode cX9_isItem 117 = .ok (.goto 4, 3) := by decide +kernel
theorem dX9_isItem_120 : decode cX9_isItem 120 = .ok (.iconst (-1), 1) := by decide +kernel
theorem dX9_isItem_121 : decode cX9_isItem 121 = .ok (.iastore, 1) := by decide +kernel
theorem dX9_isItem_122 : decode cX9_isItem 122 = .ok (.aload_n 0, 1) := by decide +kernel
theorem dX9_isItem_123 : decode cX9_isItem 123 = .ok (.getfield 59, 3) := by decide +kernel
theorem dX9_isItem_126 : decode cX9_isItem 126 = .ok (.iload 4, 2) := by decide +kernel
theorem dX9_isItem_128 : decode cX9_isItem 128 = .ok (.iaload, 1) := by decide +kernel
theorem dX9_isItem_129 : decode cX9_isItem 129 = .ok (.ifCond .lt 7, 3) := by decide +kernel
theorem dX9_isItem_132 : decode cX9_isItem 132 = .ok (.iconst 1, 1) := by decide +kernel
theorem dX9_isItem_133 : decode cX9_isItem 133 = .ok (.goto 4, 3) := by decide +kernel
theorem dX9_isItem_136 : decode cX9_isItem 136 = .ok (.iconst 0, 1) := by decide +kernel
theorem dX9_isItem_137 : decode cX9_isItem 137 = .ok (.istore_n 3, 1) := by decide +kernel
theorem dX9_isItem_138 : decode cX9_isItem 138 = .ok (.iinc 4 1, 3) := by decide +kernel
theorem dX9_isItem_141 : decode cX9_isItem 141 = .ok (.goto (-103), 3) := by decide +kernel
theorem dX9_isItem_144 : decode cX9_isItem 144 = .ok (.iload_n 3, 1) := by decide +kernel
theorem dX9_isItem_145 : decode cX9_isItem 145 = .ok (.ifCond .eq 32, 3) := by decide +kernel
theorem dX9_isItem_148 : decode cX9_isItem 148 = .ok (.aload_n 0, 1) := by decide +kernel
theorem dX9_isItem_149 : decode cX9_isItem 149 = .ok (.getfield 78, 3) := by decide +kernel
theorem dX9_isItem_152 : decode cX9_isItem 152 = .ok (.aload_n 0, 1) := by decide +kernel
theorem dX9_isItem_153 : decode cX9_isItem 153 = .ok (.getfield 74, 3) := by decide +kernel
theorem dX9_isItem_156 : decode cX9_isItem 156 = .ok (.if_icmp .ge 21, 3) := by decide +kernel
theorem dX9_isItem_159 : decode cX9_isItem 159 = .ok (.aload_n 0, 1) := by decide +kernel
theorem dX9_isItem_160 : decode cX9_isItem 160 = .ok (.getfield 7, 3) := by decide +kernel
theorem dX9_isItem_163 : decode cX9_isItem 163 = .ok (.aload_n 0, 1) := by decide +kernel
theorem dX9_isItem_164 : decode cX9_isItem 164 = .ok (.getfield 78, 3) := by decide +kernel
theorem dX9_isItem_167 : decode cX9_isItem 167 = .ok (.baload, 1) := by decide +kernel
theorem dX9_isItem_168 : decode cX9_isItem 168 = .ok (.bipush 59, 2) := by decide +kernel
theorem dX9_isItem_170 : decode cX9_isItem 170 = .ok (.if_icmp .ne 7, 3) := by decide +kernel
theorem dX9_isItem_173 : decode cX9_isItem 173 = .ok (.iconst 1, 1) := by decide +kernel
theorem dX9_isItem_174 : decode cX9_isItem 174 = .ok (.goto 4, 3) := by decide +kernel
theorem dX9_isItem_177 : decode cX9_isItem 177 = .ok (.iconst 0, 1) := by decide +kernel
theorem dX9_isItem_178 : decode cX9_isItem 178 = .ok (.istore_n 3, 1) := by decide +kernel
theorem dX9_isItem_179 : decode cX9_isItem 179 = .ok (.aload_n 0, 1) := by decide +kernel
theorem dX9_isItem_180 : decode cX9_isItem 180 = .ok (.dup, 1) := by decide +kernel
theorem dX9_isItem_181 : decode cX9_isItem 181 = .ok (.getfield 78, 3) := by decide +kernel
theorem dX9_isItem_184 : decode cX9_isItem 184 = .ok (.iconst 1, 1) := by decide +kernel
theorem dX9_isItem_185 : decode cX9_isItem 185 = .ok (.iadd, 1) := by decide +kernel
theorem dX9_isItem_186 : decode cX9_isItem 186 = .ok (.putfield 78, 3) := by decide +kernel
theorem dX9_isItem_189 : decode cX9_isItem 189 = .ok (.iload_n 3, 1) := by decide +kernel
theorem dX9_isItem_190 : decode cX9_isItem 190 = .ok (.ifCond .eq 15, 3) := by decide +kernel
theorem dX9_isItem_193 : decode cX9_isItem 193 = .ok (.aload_n 0, 1) := by decide +kernel
theorem dX9_isItem_194 : decode cX9_isItem 194 = .ok (.iload_n 1, 1) := by decide +kernel
theorem dX9_isItem_195 : decode cX9_isItem 195 = .ok (.invokevirtual 95, 3) := by decide +kernel
theorem dX9_isItem_198 : decode cX9_isItem 198 = .ok (.ifCond .eq 7, 3) := by decide +kernel
theorem dX9_isItem_201 : decode cX9_isItem 201 = .ok (.iconst 1, 1) := by decide +kernel
theorem dX9_isItem_202 : decode cX9_isItem 202 = .ok (.goto 4, 3) := by decide +kernel
theorem dX9_isItem_205 : decode cX9_isItem 205 = .ok (.iconst 0, 1) := by decide +kernel
theorem dX9_isItem_206 : decode cX9_isItem 206 = .ok (.ireturn, 1) := by decide +kernel
theorem dX9_isGood_0 : decode cX9_isGood 0 = .ok (.aload_n 0, 1) := by decide +kernel
theorem dX9_isGood_1 : decode cX9_isGood 1 = .ok (.getfield 59, 3) := by decide +kernel
theorem dX9_isGood_4 : decode cX9_isGood 4 = .ok (.iconst 0, 1) := by decide +kernel
theorem dX9_isGood_5 : decode cX9_isGood 5 = .ok (.iaload, 1) := by decide +kernel
theorem dX9_isGood_6 : decode cX9_isGood 6 = .ok (.istore_n 2, 1) := by decide +kernel
theorem dX9_isGood_7 : decode cX9_isGood 7 = .ok (.iload_n 1, 1) := by decide +kernel
theorem dX9_isGood_8 : decode cX9_isGood 8 = .ok (.bipush 116, 2) := by decide +kernel
theorem dX9_isGood_10 : decode cX9_isGood 10 = .ok (.if_icmp .ne 57, 3) := by decide +kernel
theorem dX9_isGood_13 : decode cX9_isGood 13 = .ok (.iload_n 2, 1) := by decide +kernel
theorem dX9_isGood_14 : decode cX9_isGood 14 = .ok (.i2l, 1) := by decide +kernel
theorem dX9_isGood_15 : decode cX9_isGood 15 = .ok (.ldc2_w 99, 3) := by decide +kernel
theorem dX9_isGood_18 : decode cX9_isGood 18 = .ok (.ldc2_w 101, 3) := by decide +kernel
theorem dX9_isGood_21 : decode cX9_isGood 21 = .ok (.invokestatic 70, 3) := by decide +kernel
theorem dX9_isGood_24 : decode cX9_isGood 24 = .ok (.ifCond .eq 14, 3) := by decide +kernel
theorem dX9_isGood_27 : decode cX9_isGood 27 = .ok (.aload_n 0, 1) := by decide +kernel
theorem dX9_isGood_28 : decode cX9_isGood 28 = .ok (.getfield 17, 3) := by decide +kernel
theorem dX9_isGood_31 : decode cX9_isGood 31 = .ok (.iconst 1, 1) := by decide +kernel
theorem dX9_isGood_32 : decode cX9_isGood 32 = .ok (.iaload, 1) := by decide +kernel
theorem dX9_isGood_33 : decode cX9_isGood 33 = .ok (.bipush 6, 2) := by decide +kernel
theorem dX9_isGood_35 : decode cX9_isGood 35 = .ok (.if_icmp .ne 5, 3) := by decide +kernel
theorem dX9_isGood_38 : decode cX9_isGood 38 = .ok (.iconst 0, 1) := by decide +kernel
theorem dX9_isGood_39 : decode cX9_isGood 39 = .ok (.ireturn, 1) := by decide +kernel
theorem dX9_isGood_40 : decode cX9_isGood 40 = .ok (.aload_n 0, 1) := by decide +kernel
theorem dX9_isGood_41 : decode cX9_isGood 41 = .ok (.getfield 20, 3) := by decide +kernel
theorem dX9_isGood_44 : decode cX9_isGood 44 = .ok (.bipush 6, 2) := by decide +kernel
theorem dX9_isGood_46 : decode cX9_isGood 46 = .ok (.aload_n 0, 1) := by decide +kernel
theorem dX9_isGood_47 : decode cX9_isGood 47 = .ok (.getfield 17, 3) := by decide +kernel
theorem dX9_isGood_50 : decode cX9_isGood 50 = .ok (.iconst 1, 1) := by decide +kernel
theorem dX9_isGood_51 : decode cX9_isGood 51 = .ok (.iaload, 1) := by decide +kernel
theorem dX9_isGood_52 : decode cX9_isGood 52 = .ok (.iadd, 1) := by decide +kernel
theorem dX9_isGood_53 : decode cX9_isGood 53 = .ok (.iload_n 2, 1) := by decide +kernel
theorem dX9_isGood_54 : decode cX9_isGood 54 = .ok (.iastore, 1) := by decide +kernel
theorem dX9_isGood_55 : decode cX9_isGood 55 = .ok (.aload_n 0, 1) := by decide +kernel
theorem dX9_isGood_56 : decode cX9_isGood 56 = .ok (.getfield 17, 3) := by decide +kernel
theorem dX9_isGood_59 : decode cX9_isGood 59 = .ok (.iconst 1, 1) := by decide +kernel
theorem dX9_isGood_60 : decode cX9_isGood 60 = .ok (.dup2, 1) := by decide +kernel
theorem dX9_isGood_61 : decode cX9_isGood 61 = .ok (.iaload, 1) := by decide +kernel
theorem dX9_isGood_62 : decode cX9_isGood 62 = .ok (.iconst 1, 1) := by decide +kernel
theorem dX9_isGood_63 : decode cX9_isGood 63 = .ok (.iadd, 1) := by decide +kernel
theorem dX9_isGood_64 : decode cX9_isGood 64 = .ok (.iastore, 1) := by decide +kernel
theorem dX9_isGood_65 : decode cX9_isGood 65 = .ok (.iconst 1, 1) := by decide +kernel
theorem dX9_isGood_66 : decode cX9_isGood 66 = .ok (.ireturn, 1) := by decide +kernel
theorem dX9_isGood_67 : decode cX9_isGood 67 = .ok (.iload_n 1, 1) := by decide +kernel
theorem dX9_isGood_68 : decode cX9_isGood 68 = .ok (.bipush 112, 2) := by decide +kernel
theorem dX9_isGood_70 : decode cX9_isGood 70 = .ok (.if_icmp .ne 105, 3) := by decide +kernel
theorem dX9_isGood_73 : decode cX9_isGood 73 = .ok (.iload_n 2, 1) := by decide +kernel
theorem dX9_isGood_74 : decode cX9_isGood 74 = .ok (.aload_n 0, 1) := by decide +kernel
theorem dX9_isGood_75 : decode cX9_isGood 75 = .ok (.getfield 17, 3) := by decide +kernel
theorem dX9_isGood_78 : decode cX9_isGood 78 = .ok (.iconst 1, 1) := by decide +kernel
theorem dX9_isGood_79 : decode cX9_isGood 79 = .ok (.iaload, 1) := by decide +kernel
theorem dX9_isGood_80 : decode cX9_isGood 80 = .ok (.if_icmp .ge 44, 3) := by decide +kernel
theorem dX9_isGood_83 : decode cX9_isGood 83 = .ok (.aload_n 0, 1) := by decide +kernel
theorem dX9_isGood_84 : decode cX9_isGood 84 = .ok (.getfield 59, 3) := by decide +kernel
theorem dX9_isGood_87 : decode cX9_isGood 87 = .ok (.iconst 1, 1) := by decide +kernel
theorem dX9_isGood_88 : decode cX9_isGood 88 = .ok (.iaload, 1) := by decide +kernel
theorem dX9_isGood_89 : decode cX9_isGood 89 = .ok (.i2l, 1) := by decide +kernel
theorem dX9_isGood_90 : decode cX9_isGood 90 = .ok (.ldc2_w 103, 3) := by decide +kernel
theorem dX9_isGood_93 : decode cX9_isGood 93 = .ok (.ldc2_w 105, 3) := by decide +kernel
theorem dX9_isGood_96 : decode cX9_isGood 96 = .ok (.invokestatic 70, 3) := by decide +kernel
theorem dX9_isGood_99 : decode cX9_isGood 99 = .ok (.ifCond .eq 25, 3) := by decide +kernel
theorem dX9_isGood_102 : decode cX9_isGood 102 = .ok (.aload_n 0, 1) := by decide +kernel
theorem dX9_isGood_103 : decode cX9_isGood 103 = .ok (.getfield 59, 3) := by decide +kernel
theorem dX9_isGood_106 : decode cX9_isGood 106 = .ok (.iconst 2, 1) := by decide +kernel
theorem dX9_isGood_107 : decode cX9_isGood 107 = .ok (.iaload, 1) := by decide +kernel
theorem dX9_isGood_108 : decode cX9_isGood 108 = .ok (.bipush 99, 2) := by decide +kernel
theorem dX9_isGood_110 : decode cX9_isGood 110 = .ok (.if_icmp .gt 14, 3) := by decide +kernel
theorem dX9_isGood_113 : decode cX9_isGood 113 = .ok (.aload_n 0, 1) := by decide +kernel
theorem dX9_isGood_114 : decode cX9_isGood 114 = .ok (.getfield 23, 3) := by decide +kernel
theorem dX9_isGood_117 : decode cX9_isGood 117 = .ok (.iconst 1, 1) := by decide +kernel
theorem dX9_isGood_118 : decode cX9_isGood 118 = .ok (.iaload, 1) := by decide +kernel
theorem dX9_isGood_119 : decode cX9_isGood 119 = .ok (.bipush 7, 2) := by decide +kernel
theorem dX9_isGood_121 : decode cX9_isGood 121 = .ok (.if_icmp .ne 5, 3) := by decide +kernel
theorem dX9_isGood_124 : decode cX9_isGood 124 = .ok (.iconst 0, 1) := by decide +kernel
theorem dX9_isGood_125 : decode cX9_isGood 125 = .ok (.ireturn, 1) := by decide +kernel
theorem dX9_isGood_126 : decode cX9_isGood 126 = .ok (.iconst 0, 1) := by decide +kernel
theorem dX9_isGood_127 : decode cX9_isGood 127 = .ok (.istore_n 3, 1) := by decide +kernel
theorem dX9_isGood_128 : decode cX9_isGood 128 = .ok (.iload_n 3, 1) := by decide +kernel
theorem dX9_isGood_129 : decode cX9_isGood 129 = .ok (.iconst 3, 1) := by decide +kernel
theorem dX9_isGood_130 : decode cX9_isGood 130 = .ok (.if_icmp .ge 33, 3) := by decide +kernel
theorem dX9_isGood_133 : decode cX9_isGood 133 = .ok (.aload_n 0, 1) := by decide +kernel
theorem dX9_isGood_134 : decode cX9_isGood 134 = .ok (.getfield 26, 3) := by decide +kernel
theorem dX9_isGood_137 : decode cX9_isGood 137 = .ok (.bipush 21, 2) := by decide +kernel
theorem dX9_isGood_139 : decode cX9_isGood 139 = .ok (.iconst 3, 1) := by decide +kernel
theorem dX9_isGood_140 : decode cX9_isGood 140 = .ok (.aload_n 0, 1) := by decide +kernel
theorem dX9_isGood_141 : decode cX9_isGood 141 = .ok (.getfield 23, 3) := by decide +kernel
theorem dX9_isGood_144 : decode cX9_isGood 144 = .ok (.iconst 1, 1) := by decide +kernel
theorem dX9_isGood_145 : decode cX9_isGood 145 = .ok (.iaload, 1) := by decide +kernel
theorem dX9_isGood_146 : decode cX9_isGood 146 = .ok (.imul, 1) := by decide +kernel
theorem dX9_isGood_147 : decode cX9_isGood 147 = .ok (.iadd, 1) := by decide +kernel
theorem dX9_isGood_148 : decode cX9_isGood 148 = .ok (.iload_n 3, 1) := by decide +kernel
theorem dX9_isGood_149 : decode cX9_isGood 149 = .ok (.iadd, 1) := by decide +kernel
theorem dX9_isGood_150 : decode cX9_isGood 150 = .ok (.aload_n 0, 1) := by decide +kernel
theorem dX9_isGood_151 : decode cX9_isGood 151 = .ok (.getfield 59, 3) := by decide +kernel
theorem dX9_isGood_154 : decode cX9_isGood 154 = .ok (.iload_n 3, 1) := by decide +kernel
theorem dX9_isGood_155 : decode cX9_isGood 155 = .ok (.iaload, 1) := by decide +kernel
theorem dX9_isGood_156 : decode cX9_isGood 156 = .ok (.iastore, 1) := by decide +kernel
theorem dX9_isGood_157 : decode cX9_isGood 157 = .ok (.iinc 3 1, 3) := by decide +kernel
theorem dX9_isGood_160 : decode cX9_isGood 160 = .ok (.goto (-32), 3) := by decide +kernel
theorem dX9_isGood_163 : decode cX9_isGood 163 = .ok (.aload_n 0, 1) := by decide +kernel
theorem dX9_isGood_164 : decode cX9_isGood 164 = .ok (.getfield 23, 3) := by decide +kernel
theorem dX9_isGood_167 : decode cX9_isGood 167 = .ok (.iconst 1, 1) := by decide +kernel
theorem dX9_isGood_168 : decode cX9_isGood 168 = .ok (.dup2, 1) := by decide +kernel
theorem dX9_isGood_169 : decode cX9_isGood 169 = .ok (.iaload, 1) := by decide +kernel
theorem dX9_isGood_170 : decode cX9_isGood 170 = .ok (.iconst 1, 1) := by decide +kernel
theorem dX9_isGood_171 : decode cX9_isGood 171 = .ok (.iadd, 1) := by decide +kernel
theorem dX9_isGood_172 : decode cX9_isGood 172 = .ok (.iastore, 1) := by decide +kernel
theorem dX9_isGood_173 : decode cX9_isGood 173 = .ok (.iconst 1, 1) := by decide +kernel
theorem dX9_isGood_174 : decode cX9_isGood 174 = .ok (.ireturn, 1) := by decide +kernel
theorem dX9_isGood_175 : decode cX9_isGood 175 = .ok (.iload_n 1, 1) := by decide +kernel
theorem dX9_isGood_176 : decode cX9_isGood 176 = .ok (.bipush 115, 2) := by decide +kernel
theorem dX9_isGood_178 : decode cX9_isGood 178 = .ok (.if_icmp .ne 102, 3) := by decide +kernel
theorem dX9_isGood_181 : decode cX9_isGood 181 = .ok (.iload_n 2, 1) := by decide +kernel
theorem dX9_isGood_182 : decode cX9_isGood 182 = .ok (.aload_n 0, 1) := by decide +kernel
theorem dX9_isGood_183 : decode cX9_isGood 183 = .ok (.getfield 23, 3) := by decide +kernel
theorem dX9_isGood_186 : decode cX9_isGood 186 = .ok (.iconst 1, 1) := by decide +kernel
theorem dX9_isGood_187 : decode cX9_isGood 187 = .ok (.iaload, 1) := by decide +kernel
theorem dX9_isGood_188 : decode cX9_isGood 188 = .ok (.if_icmp .ge 39, 3) := by decide +kernel
theorem dX9_isGood_191 : decode cX9_isGood 191 = .ok (.aload_n 0, 1) := by decide +kernel
theorem dX9_isGood_192 : decode cX9_isGood 192 = .ok (.getfield 59, 3) := by decide +kernel
theorem dX9_isGood_195 : decode cX9_isGood 195 = .ok (.iconst 1, 1) := by decide +kernel
theorem dX9_isGood_196 : decode cX9_isGood 196 = .ok (.iaload, 1) := by decide +kernel
theorem dX9_isGood_197 : decode cX9_isGood 197 = .ok (.aload_n 0, 1) := by decide +kernel
theorem dX9_isGood_198 : decode cX9_isGood 198 = .ok (.getfield 23, 3) := by decide +kernel
theorem dX9_isGood_201 : decode cX9_isGood 201 = .ok (.iconst 1, 1) := by decide +kernel
theorem dX9_isGood_202 : decode cX9_isGood 202 = .ok (.iaload, 1) := by decide +kernel
theorem dX9_isGood_203 : decode cX9_isGood 203 = .ok (.if_icmp .ge 24, 3) := by decide +kernel
theorem dX9_isGood_206 : decode cX9_isGood 206 = .ok (.iload_n 2, 1) := by decide +kernel
theorem dX9_isGood_207 : decode cX9_isGood 207 = .ok (.aload_n 0, 1) := by decide +kernel
theorem dX9_isGood_208 : decode cX9_isGood 208 = .ok (.getfield 59, 3) := by decide +kernel
theorem dX9_isGood_211 : decode cX9_isGood 211 = .ok (.iconst 1, 1) := by decide +kernel
theorem dX9_isGood_212 : decode cX9_isGood 212 = .ok (.iaload, 1) := by decide +kernel
theorem dX9_isGood_213 : decode cX9_isGood 213 = .ok (.if_icmp .eq 14, 3) := by decide +kernel
theorem dX9_isGood_216 : decode cX9_isGood 216 = .ok (.aload_n 0, 1) := by decide +kernel
theorem dX9_isGood_217 : decode cX9_isGood 217 = .ok (.getfield 29, 3) := by decide +kernel
theorem dX9_isGood_220 : decode cX9_isGood 220 = .ok (.iconst 1, 1) := by decide +kernel
theorem dX9_isGood_221 : decode cX9_isGood 221 = .ok (.iaload, 1) := by decide +kernel
theorem dX9_isGood_222 : decode cX9_isGood 222 = .ok (.bipush 10, 2) := by decide +kernel
theorem dX9_isGood_224 : decode cX9_isGood 224 = .ok (.if_icmp .ne 5, 3) := by decide +kernel
theorem dX9_isGood_227 : decode cX9_isGood 227 = .ok (.iconst 0, 1) := by decide +kernel
theorem dX9_isGood_228 : decode cX9_isGood 228 = .ok (.ireturn, 1) := by decide +kernel
theorem dX9_isGood_229 : decode cX9_isGood 229 = .ok (.aload_n 0, 1) := by decide +kernel
theorem dX9_isGood_230 : decode cX9_isGood 230 = .ok (.getfield 32, 3) := by decide +kernel
theorem dX9_isGood_233 : decode cX9_isGood 233 = .ok (.bipush 20, 2) := by decide +kernel
theorem dX9_isGood_235 : decode cX9_isGood 235 = .ok (.iconst 2, 1) := by decide +kernel
theorem dX9_isGood_236 : decode cX9_isGood 236 = .ok (.aload_n 0, 1) := by decide +kernel
theorem dX9_isGood_237 : decode cX9_isGood 237 = .ok (.getfield 29, 3) := by decide +kernel
theorem dX9_isGood_240 : decode cX9_isGood 240 = .ok (.iconst 1, 1) := by decide +kernel
theorem dX9_isGood_241 : decode cX9_isGood 241 = .ok (.iaload, 1) := by decide +kernel
theorem dX9_isGood_242 : decode cX9_isGood 242 = .ok (.imul, 1) := by decide +kernel
theorem dX9_isGood_243 : decode cX9_isGood 243 = .ok (.iadd, 1) := by decide +kernel
theorem dX9_isGood_244 : decode cX9_isGood 244 = .ok (.iload_n 2, 1) := by decide +kernel
theorem dX9_isGood_245 : decode cX9_isGood 245 = .ok (.iastore, 1) := by decide +kernel
theorem dX9_isGood_246 : decode cX9_isGood 246 = .ok (.aload_n 0, 1) := by decide +kernel
theorem dX9_isGood_247 : decode cX9_isGood 247 = .ok (.getfield 32, 3) := by decide +kernel
theorem dX9_isGood_250 : decode cX9_isGood 250 = .ok (.bipush 21, 2) := by decide +kernel
theorem dX9_isGood_252 : decode cX9_isGood 252 = .ok (.iconst 2, 1) := by decide +kernel
theorem dX9_isGood_253 : decode cX9_isGood 253 = .ok (.aload_n 0, 1) := by decide +kernel
theorem dX9_isGood_254 : decode cX9_isGood 254 = .ok (.getfield 29, 3) := by decide +kernel
theorem dX9_isGood_257 : decode cX9_isGood 257 = .ok (.iconst 1, 1) := by decide +kernel
theorem dX9_isGood_258 : decode cX9_isGood 258 = .ok (.iaload, 1) := by decide +kernel
theorem dX9_isGood_259 : decode cX9_isGood 259 = .ok (.imul, 1) := by decide +kernel
theorem dX9_isGood_260 : decode cX9_isGood 260 = .ok (.iadd, 1) := by decide +kernel
theorem dX9_isGood_261 : decode cX9_isGood 261 = .ok (.aload_n 0, 1) := by decide +kernel
theorem dX9_isGood_262 : decode cX9_isGood 262 = .ok (.getfield 59, 3) := by decide +kernel
theorem dX9_isGood_265 : decode cX9_isGood 265 = .ok (.iconst 1, 1) := by decide +kernel
theorem dX9_isGood_266 : decode cX9_isGood 266 = .ok (.iaload, 1) := by decide +kernel
theorem dX9_isGood_267 : decode cX9_isGood 267 = .ok (.iastore, 1) := by decide +kernel
theorem dX9_isGood_268 : decode cX9_isGood 268 = .ok (.aload_n 0, 1) := by decide +kernel
theorem dX9_isGood_269 : decode cX9_isGood 269 = .ok (.getfield 29, 3) := by decide +kernel
theorem dX9_isGood_272 : decode cX9_isGood 272 = .ok (.iconst 1, 1) := by decide +kernel
theorem dX9_isGood_273 : decode cX9_isGood 273 = .ok (.dup2, 1) := by decide +kernel
theorem dX9_isGood_274 : decode cX9_isGood 274 = .ok (.iaload, 1) := by decide +kernel
theorem dX9_isGood_275 : decode cX9_isGood 275 = .ok (.iconst 1, 1) := by decide +kernel
theorem dX9_isGood_276 : decode cX9_isGood 276 = .ok (.iadd, 1) := by decide +kernel
theorem dX9_isGood_277 : decode cX9_isGood 277 = .ok (.iastore, 1) := by decide +kernel
theorem dX9_isGood_278 : decode cX9_isGood 278 = .ok (.iconst 1, 1) := by decide +kernel
theorem dX9_isGood_279 : decode cX9_isGood 279 = .ok (.ireturn, 1) := by decide +kernel
theorem dX9_isGood_280 : decode cX9_isGood 280 = .ok (.aload_n 0, 1) := by decide +kernel
theorem dX9_isGood_281 : decode cX9_isGood 281 = .ok (.getfield 13, 3) := by decide +kernel
theorem dX9_isGood_284 : decode cX9_isGood 284 = .ok (.iload_n 1, 1) := by decide +kernel
theorem dX9_isGood_285 : decode cX9_isGood 285 = .ok (.bipush 103, 2) := by decide +kernel
theorem dX9_isGood_287 : decode cX9_isGood 287 = .ok (.if_icmp .ne 7, 3) := by decide +kernel
theorem dX9_isGood_290 : decode cX9_isGood 290 = .ok (.iconst 3, 1) := by decide +kernel
theorem dX9_isGood_291 : decode cX9_isGood 291 = .ok (.goto 14, 3) := by decide +kernel
theorem dX9_isGood_294 : decode cX9_isGood 294 = .ok (.iload_n 1, 1) := by decide +kernel
theorem dX9_isGood_295 : decode cX9_isGood 295 = .ok (.bipush 122, 2) := by decide +kernel
theorem dX9_isGood_297 : decode cX9_isGood 297 = .ok (.if_icmp .ne 7, 3) := by decide +kernel
theorem dX9_isGood_300 : decode cX9_isGood 300 = .ok (.iconst 4, 1) := by decide +kernel
theorem dX9_isGood_301 : decode cX9_isGood 301 = .ok (.goto 4, 3) := by decide +kernel
theorem dX9_isGood_304 : decode cX9_isGood 304 = .ok (.iconst 5, 1) := by decide +kernel
theorem dX9_isGood_305 : decode cX9_isGood 305 = .ok (.iload_n 2, 1) := by decide +kernel
theorem dX9_isGood_306 : decode cX9_isGood 306 = .ok (.iastore, 1) := by decide +kernel
theorem dX9_isGood_307 : decode cX9_isGood 307 = .ok (.iload_n 1, 1) := by decide +kernel
theorem dX9_isGood_308 : decode cX9_isGood 308 = .ok (.bipush 103, 2) := by decide +kernel
theorem dX9_isGood_310 : decode cX9_isGood 310 = .ok (.if_icmp .ne 17, 3) := by decide +kernel
theorem dX9_isGood_313 : decode cX9_isGood 313 = .ok (.iload_n 2, 1) := by decide +kernel
theorem dX9_isGood_314 : decode cX9_isGood 314 = .ok (.bipush 21, 2) := by decide +kernel
theorem dX9_isGood_316 : decode cX9_isGood 316 = .ok (.if_icmp .ge 7, 3) := by decide +kernel
theorem dX9_isGood_319 : decode cX9_isGood 319 = .ok (.iconst 1, 1) := by decide +kernel
theorem dX9_isGood_320 : decode cX9_isGood 320 = .ok (.goto 22, 3) := by decide +kernel
theorem dX9_isGood_323 : decode cX9_isGood 323 = .ok (.iconst 0, 1) := by decide +kernel
theorem dX9_isGood_324 : decode cX9_isGood 324 = .ok (.goto 18, 3) := by decide +kernel
theorem dX9_isGood_327 : decode cX9_isGood 327 = .ok (.iload_n 1, 1) := by decide +kernel
theorem dX9_isGood_328 : decode cX9_isGood 328 = .ok (.bipush 122, 2) := by decide +kernel
theorem dX9_isGood_330 : decode cX9_isGood 330 = .ok (.if_icmp .eq 7, 3) := by decide +kernel
theorem dX9_isGood_333 : decode cX9_isGood 333 = .ok (.iload_n 2, 1) := by decide +kernel
theorem dX9_isGood_334 : decode cX9_isGood 334 = .ok (.ifCond .le 7, 3) := by decide +kernel
theorem dX9_isGood_337 : decode cX9_isGood 337 = .ok (.iconst 1, 1) := by decide +kernel
theorem dX9_isGood_338 : decode cX9_isGood 338 = .ok (.goto 4, 3) := by decide +kernel
theorem dX9_isGood_341 : decode cX9_isGood 341 = .ok (.iconst 0, 1) := by decide +kernel
theorem dX9_isGood_342 : decode cX9_isGood 342 = .ok (.ireturn, 1) := by decide +kernel
theorem dX9_begins_0 : decode cX9_begins 0 = .ok (.aload_n 0, 1) := by decide +kernel
theorem dX9_begins_1 : decode cX9_begins 1 = .ok (.getfield 17, 3) := by decide +kernel
theorem dX9_begins_4 : decode cX9_begins 4 = .ok (.iconst 1, 1) := by decide +kernel
theorem dX9_begins_5 : decode cX9_begins 5 = .ok (.iconst 0, 1) := by decide +kernel
theorem dX9_begins_6 : decode cX9_begins 6 = .ok (.iastore, 1) := by decide +kernel
theorem dX9_begins_7 : decode cX9_begins 7 = .ok (.aload_n 0, 1) := by decide +kernel
theorem dX9_begins_8 : decode cX9_begins 8 = .ok (.getfield 23, 3) := by decide +kernel
theorem dX9_begins_11 : decode cX9_begins 11 = .ok (.iconst 1, 1) := by decide +kernel
theorem dX9_begins_12 : decode cX9_begins 12 = .ok (.iconst 0, 1) := by decide +kernel
theorem dX9_begins_13 : decode cX9_begins 13 = .ok (.iastore, 1) := by decide +kernel
theorem dX9_begins_14 : decode cX9_begins 14 = .ok (.aload_n 0, 1) := by decide +kernel
theorem dX9_begins_15 : decode cX9_begins 15 = .ok (.getfield 29, 3) := by decide +kernel
theorem dX9_begins_18 : decode cX9_begins 18 = .ok (.iconst 1, 1) := by decide +kernel
theorem dX9_begins_19 : decode cX9_begins 19 = .ok (.iconst 0, 1) := by decide +kernel
theorem dX9_begins_20 : decode cX9_begins 20 = .ok (.iastore, 1) := by decide +kernel
theorem dX9_begins_21 : decode cX9_begins 21 = .ok (.aload_n 0, 1) := by decide +kernel
theorem dX9_begins_22 : decode cX9_begins 22 = .ok (.getfield 13, 3) := by decide +kernel
theorem dX9_begins_25 : decode cX9_begins 25 = .ok (.iconst 3, 1) := by decide +kernel
theorem dX9_begins_26 : decode cX9_begins 26 = .ok (.iconst 1, 1) := by decide +kernel
theorem dX9_begins_27 : decode cX9_begins 27 = .ok (.iastore, 1) := by decide +kernel
theorem dX9_begins_28 : decode cX9_begins 28 = .ok (.aload_n 0, 1) := by decide +kernel
theorem dX9_begins_29 : decode cX9_begins 29 = .ok (.getfield 13, 3) := by decide +kernel
theorem dX9_begins_32 : decode cX9_begins 32 = .ok (.iconst 4, 1) := by decide +kernel
theorem dX9_begins_33 : decode cX9_begins 33 = .ok (.iconst 0, 1) := by decide +kernel
theorem dX9_begins_34 : decode cX9_begins 34 = .ok (.iastore, 1) := by decide +kernel
theorem dX9_begins_35 : decode cX9_begins 35 = .ok (.aload_n 0, 1) := by decide +kernel
theorem dX9_begins_36 : decode cX9_begins 36 = .ok (.getfield 13, 3) := by decide +kernel
theorem dX9_begins_39 : decode cX9_begins 39 = .ok (.iconst 5, 1) := by decide +kernel
theorem dX9_begins_40 : decode cX9_begins 40 = .ok (.sipush 300, 3) := by decide +kernel
theorem dX9_begins_43 : decode cX9_begins 43 = .ok (.iastore, 1) := by decide +kernel
theorem dX9_begins_44 : decode cX9_begins 44 = .ok (.return_, 1) := by decide +kernel
theorem dX9_takes_0 : decode cX9_takes 0 = .ok (.aload_n 0, 1) := by decide +kernel
theorem dX9_takes_1 : decode cX9_takes 1 = .ok (.getfield 17, 3) := by decide +kernel
theorem dX9_takes_4 : decode cX9_takes 4 = .ok (.iconst 0, 1) := by decide +kernel
theorem dX9_takes_5 : decode cX9_takes 5 = .ok (.aload_n 0, 1) := by decide +kernel
theorem dX9_takes_6 : decode cX9_takes 6 = .ok (.getfield 17, 3) := by decide +kernel
theorem dX9_takes_9 : decode cX9_takes 9 = .ok (.iconst 1, 1) := by decide +kernel
theorem dX9_takes_10 : decode cX9_takes 10 = .ok (.iaload, 1) := by decide +kernel
theorem dX9_takes_11 : decode cX9_takes 11 = .ok (.iastore, 1) := by decide +kernel
theorem dX9_takes_12 : decode cX9_takes 12 = .ok (.aload_n 0, 1) := by decide +kernel
theorem dX9_takes_13 : decode cX9_takes 13 = .ok (.getfield 23, 3) := by decide +kernel
theorem dX9_takes_16 : decode cX9_takes 16 = .ok (.iconst 0, 1) := by decide +kernel
theorem dX9_takes_17 : decode cX9_takes 17 = .ok (.aload_n 0, 1) := by decide +kernel
theorem dX9_takes_18 : decode cX9_takes 18 = .ok (.getfield 23, 3) := by decide +kernel
theorem dX9_takes_21 : decode cX9_takes 21 = .ok (.iconst 1, 1) := by decide +kernel
theorem dX9_takes_22 : decode cX9_takes 22 = .ok (.iaload, 1) := by decide +kernel
theorem dX9_takes_23 : decode cX9_takes 23 = .ok (.iastore, 1) := by decide +kernel
theorem dX9_takes_24 : decode cX9_takes 24 = .ok (.aload_n 0, 1) := by decide +kernel
theorem dX9_takes_25 : decode cX9_takes 25 = .ok (.getfield 29, 3) := by decide +kernel
theorem dX9_takes_28 : decode cX9_takes 28 = .ok (.iconst 0, 1) := by decide +kernel
theorem dX9_takes_29 : decode cX9_takes 29 = .ok (.aload_n 0, 1) := by decide +kernel
theorem dX9_takes_30 : decode cX9_takes 30 = .ok (.getfield 29, 3) := by decide +kernel
theorem dX9_takes_33 : decode cX9_takes 33 = .ok (.iconst 1, 1) := by decide +kernel
theorem dX9_takes_34 : decode cX9_takes 34 = .ok (.iaload, 1) := by decide +kernel
theorem dX9_takes_35 : decode cX9_takes 35 = .ok (.iastore, 1) := by decide +kernel
theorem dX9_takes_36 : decode cX9_takes 36 = .ok (.iconst 0, 1) := by decide +kernel
theorem dX9_takes_37 : decode cX9_takes 37 = .ok (.istore_n 1, 1) := by decide +kernel
theorem dX9_takes_38 : decode cX9_takes 38 = .ok (.iload_n 1, 1) := by decide +kernel
theorem dX9_takes_39 : decode cX9_takes 39 = .ok (.bipush 21, 2) := by decide +kernel
theorem dX9_takes_41 : decode cX9_takes 41 = .ok (.if_icmp .ge 85, 3) := by decide +kernel
theorem dX9_takes_44 : decode cX9_takes 44 = .ok (.aload_n 0, 1) := by decide +kernel
theorem dX9_takes_45 : decode cX9_takes 45 = .ok (.getfield 26, 3) := by decide +kernel
theorem dX9_takes_48 : decode cX9_takes 48 = .ok (.iload_n 1, 1) := by decide +kernel
theorem dX9_takes_49 : decode cX9_takes 49 = .ok (.aload_n 0, 1) := by decide +kernel
theorem dX9_takes_50 : decode cX9_takes 50 = .ok (.getfield 26, 3) := by decide +kernel
theorem dX9_takes_53 : decode cX9_takes 53 = .ok (.bipush 21, 2) := by decide +kernel
theorem dX9_takes_55 : decode cX9_takes 55 = .ok (.iload_n 1, 1) := by decide +kernel
theorem dX9_takes_56 : decode cX9_takes 56 = .ok (.iadd, 1) := by decide +kernel
theorem dX9_takes_57 : decode cX9_takes 57 = .ok (.iaload, 1) := by decide +kernel
theorem dX9_takes_58 : decode cX9_takes 58 = .ok (.iastore, 1) := by decide +kernel
theorem dX9_takes_59 : decode cX9_takes 59 = .ok (.iload_n 1, 1) := by decide +kernel
theorem dX9_takes_60 : decode cX9_takes 60 = .ok (.bipush 20, 2) := by decide +kernel
theorem dX9_takes_62 : decode cX9_takes 62 = .ok (.if_icmp .ge 18, 3) := by decide +kernel
theorem dX9_takes_65 : decode cX9_takes 65 = .ok (.aload_n 0, 1) := by decide +kernel
theorem dX9_takes_66 : decode cX9_takes 66 = .ok (.getfield 32, 3) := by decide +kernel
theorem dX9_takes_69 : decode cX9_takes 69 = .ok (.iload_n 1, 1) := by decide +kernel
theorem dX9_takes_70 : decode cX9_takes 70 = .ok (.aload_n 0, 1) := by decide +kernel
theorem dX9_takes_71 : decode cX9_takes 71 = .ok (.getfield 32, 3) := by decide +kernel
theorem dX9_takes_74 : decode cX9_takes 74 = .ok (.bipush 20, 2) := by decide +kernel
theorem dX9_takes_76 : decode cX9_takes 76 = .ok (.iload_n 1, 1) := by decide +kernel
theorem dX9_takes_77 : decode cX9_takes 77 = .ok (.iadd, 1) := by decide +kernel
theorem dX9_takes_78 : decode cX9_takes 78 = .ok (.iaload, 1) := by decide +kernel
theorem dX9_takes_79 : decode cX9_takes 79 = .ok (.iastore, 1) := by decide +kernel
theorem dX9_takes_80 : decode cX9_takes 80 = .ok (.iload_n 1, 1) := by decide +kernel
theorem dX9_takes_81 : decode cX9_takes 81 = .ok (.bipush 6, 2) := by decide +kernel
theorem dX9_takes_83 : decode cX9_takes 83 = .ok (.if_icmp .ge 18, 3) := by decide +kernel
theorem dX9_takes_86 : decode cX9_takes 86 = .ok (.aload_n 0, 1) := by decide +kernel
theorem dX9_takes_87 : decode cX9_takes 87 = .ok (.getfield 20, 3) := by decide +kernel
theorem dX9_takes_90 : decode cX9_takes 90 = .ok (.iload_n 1, 1) := by decide +kernel
theorem dX9_takes_91 : decode cX9_takes 91 = .ok (.aload_n 0, 1) := by decide +kernel
theorem dX9_takes_92 : decode cX9_takes 92 = .ok (.getfield 20, 3) := by decide +kernel
theorem dX9_takes_95 : decode cX9_takes 95 = .ok (.bipush 6, 2) := by decide +kernel
theorem dX9_takes_97 : decode cX9_takes 97 = .ok (.iload_n 1, 1) := by decide +kernel
theorem dX9_takes_98 : decode cX9_takes 98 = .ok (.iadd, 1) := by decide +kernel
theorem dX9_takes_99 : decode cX9_takes 99 = .ok (.iaload, 1) := by decide +kernel
theorem dX9_takes_100 : decode cX9_takes 100 = .ok (.iastore, 1) := by decide +kernel
theorem dX9_takes_101 : decode cX9_takes 101 = .ok (.iload_n 1, 1) := by decide +kernel
theorem dX9_takes_102 : decode cX9_takes 102 = .ok (.iconst 3, 1) := by decide +kernel
theorem dX9_takes_103 : decode cX9_takes 103 = .ok (.if_icmp .ge 17, 3) := by decide +kernel
theorem dX9_takes_106 : decode cX9_takes 106 = .ok (.aload_n 0, 1) := by decide +kernel
theorem dX9_takes_107 : decode cX9_takes 107 = .ok (.getfield 13, 3) := by decide +kernel
theorem dX9_takes_110 : decode cX9_takes 110 = .ok (.iload_n 1, 1) := by decide +kernel
theorem dX9_takes_111 : decode cX9_takes 111 = .ok (.aload_n 0, 1) := by decide +kernel
theorem dX9_takes_112 : decode cX9_takes 112 = .ok (.getfield 13, 3) := by decide +kernel
theorem dX9_takes_115 : decode cX9_takes 115 = .ok (.iconst 3, 1) := by decide +kernel
theorem dX9_takes_116 : decode cX9_takes 116 = .ok (.iload_n 1, 1) := by decide +kernel
theorem dX9_takes_117 : decode cX9_takes 117 = .ok (.iadd, 1) := by decide +kernel
theorem dX9_takes_118 : decode cX9_takes 118 = .ok (.iaload, 1) := by decide +kernel
theorem dX9_takes_119 : decode cX9_takes 119 = .ok (.iastore, 1) := by decide +kernel
theorem dX9_takes_120 : decode cX9_takes 120 = .ok (.iinc 1 1, 3) := by decide +kernel
theorem dX9_takes_123 : decode cX9_takes 123 = .ok (.goto (-85), 3) := by decide +kernel
theorem dX9_takes_126 : decode cX9_takes 126 = .ok (.iconst 0, 1) := by decide +kernel
theorem dX9_takes_127 : decode cX9_takes 127 = .ok (.istore_n 1, 1) := by decide +kernel
theorem dX9_takes_128 : decode cX9_takes 128 = .ok (.iload_n 1, 1) := by decide +kernel
theorem dX9_takes_129 : decode cX9_takes 129 = .ok (.bipush 7, 2) := by decide +kernel
theorem dX9_takes_131 : decode cX9_takes 131 = .ok (.if_icmp .ge 26, 3) := by decide +kernel
theorem dX9_takes_134 : decode cX9_takes 134 = .ok (.aload_n 0, 1) := by decide +kernel
theorem dX9_takes_135 : decode cX9_takes 135 = .ok (.getfield 35, 3) := by decide +kernel
theorem dX9_takes_138 : decode cX9_takes 138 = .ok (.iload_n 1, 1) := by decide +kernel
theorem dX9_takes_139 : decode cX9_takes 139 = .ok (.iload_n 1, 1) := by decide +kernel
theorem dX9_takes_140 : decode cX9_takes 140 = .ok (.iastore, 1) := by decide +kernel
theorem dX9_takes_141 : decode cX9_takes 141 = .ok (.aload_n 0, 1) := by decide +kernel
theorem dX9_takes_142 : decode cX9_takes 142 = .ok (.getfield 35, 3) := by decide +kernel
theorem dX9_takes_145 : decode cX9_takes 145 = .ok (.bipush 7, 2) := by decide +kernel
theorem dX9_takes_147 : decode cX9_takes 147 = .ok (.iload_n 1, 1) := by decide +kernel
theorem dX9_takes_148 : decode cX9_takes 148 = .ok (.iadd, 1) := by decide +kernel
theorem dX9_takes_149 : decode cX9_takes 149 = .ok (.iconst 0, 1) := by decide +kernel
theorem dX9_takes_150 : decode cX9_takes 150 = .ok (.iastore, 1) := by decide +kernel
theorem dX9_takes_151 : decode cX9_takes 151 = .ok (.iinc 1 1, 3) := by decide +kernel
theorem dX9_takes_154 : decode cX9_takes 154 = .ok (.goto (-26), 3) := by decide +kernel
theorem dX9_takes_157 : decode cX9_takes 157 = .ok (.aload_n 0, 1) := by decide +kernel
theorem dX9_takes_158 : decode cX9_takes 158 = .ok (.iconst 0, 1) := by decide +kernel
theorem dX9_takes_159 : decode cX9_takes 159 = .ok (.putfield 107, 3) := by decide +kernel
theorem dX9_takes_162 : decode cX9_takes 162 = .ok (.aload_n 0, 1) := by decide +kernel
theorem dX9_takes_163 : decode cX9_takes 163 = .ok (.iconst 0, 1) := by decide +kernel
theorem dX9_takes_164 : decode cX9_takes 164 = .ok (.putfield 110, 3) := by decide +kernel
theorem dX9_takes_167 : decode cX9_takes 167 = .ok (.aload_n 0, 1) := by decide +kernel
theorem dX9_takes_168 : decode cX9_takes 168 = .ok (.iconst 0, 1) := by decide +kernel
theorem dX9_takes_169 : decode cX9_takes 169 = .ok (.putfield 113, 3) := by decide +kernel
theorem dX9_takes_172 : decode cX9_takes 172 = .ok (.aload_n 0, 1) := by decide +kernel
theorem dX9_takes_173 : decode cX9_takes 173 = .ok (.iconst 0, 1) := by decide +kernel
theorem dX9_takes_174 : decode cX9_takes 174 = .ok (.putfield 116, 3) := by decide +kernel
theorem dX9_takes_177 : decode cX9_takes 177 = .ok (.return_, 1) := by decide +kernel
theorem dX9_fault_0 : decode cX9_fault 0 = .ok (.aload_n 0, 1) := by decide +kernel
theorem dX9_fault_1 : decode cX9_fault 1 = .ok (.iconst 0, 1) := by decide +kernel
theorem dX9_fault_2 : decode cX9_fault 2 = .ok (.putfield 78, 3) := by decide +kernel
theorem dX9_fault_5 : decode cX9_fault 5 = .ok (.aload_n 0, 1) := by decide +kernel
theorem dX9_fault_6 : decode cX9_fault 6 = .ok (.invokevirtual 62, 3) := by decide +kernel
theorem dX9_fault_9 : decode cX9_fault 9 = .ok (.aload_n 0, 1) := by decide +kernel
theorem dX9_fault_10 : decode cX9_fault 10 = .ok (.getfield 78, 3) := by decide +kernel
theorem dX9_fault_13 : decode cX9_fault 13 = .ok (.aload_n 0, 1) := by decide +kernel
theorem dX9_fault_14 : decode cX9_fault 14 = .ok (.getfield 74, 3) := by decide +kernel
theorem dX9_fault_17 : decode cX9_fault 17 = .ok (.if_icmp .ge 20, 3) := by decide +kernel
theorem dX9_fault_20 : decode cX9_fault 20 = .ok (.aload_n 0, 1) := by decide +kernel
theorem dX9_fault_21 : decode cX9_fault 21 = .ok (.getfield 78, 3) := by decide +kernel
theorem dX9_fault_24 : decode cX9_fault 24 = .ok (.istore_n 1, 1) := by decide +kernel
theorem dX9_fault_25 : decode cX9_fault 25 = .ok (.aload_n 0, 1) := by decide +kernel
theorem dX9_fault_26 : decode cX9_fault 26 = .ok (.invokevirtual 119, 3) := by decide +kernel
theorem dX9_fault_29 : decode cX9_fault 29 = .ok (.ifCond .ne 5, 3) := by decide +kernel
theorem dX9_fault_32 : decode cX9_fault 32 = .ok (.iload_n 1, 1) := by decide +kernel
theorem dX9_fault_33 : decode cX9_fault 33 = .ok (.ireturn, 1) := by decide +kernel
theorem dX9_fault_34 : decode cX9_fault 34 = .ok (.goto (-25), 3) := by decide +kernel
theorem dX9_fault_37 : decode cX9_fault 37 = .ok (.bipush (-4), 2) := by decide +kernel
theorem dX9_fault_39 : decode cX9_fault 39 = .ok (.ireturn, 1) := by decide +kernel
theorem dX9_lay_0 : decode cX9_lay 0 = .ok (.aload_n 0, 1) := by decide +kernel
theorem dX9_lay_1 : decode cX9_lay 1 = .ok (.invokevirtual 123, 3) := by decide +kernel
theorem dX9_lay_4 : decode cX9_lay 4 = .ok (.bipush (-4), 2) := by decide +kernel
theorem dX9_lay_6 : decode cX9_lay 6 = .ok (.if_icmp .ne 12, 3) := by decide +kernel
theorem dX9_lay_9 : decode cX9_lay 9 = .ok (.aload_n 0, 1) := by decide +kernel
theorem dX9_lay_10 : decode cX9_lay 10 = .ok (.getfield 23, 3) := by decide +kernel
theorem dX9_lay_13 : decode cX9_lay 13 = .ok (.iconst 1, 1) := by decide +kernel
theorem dX9_lay_14 : decode cX9_lay 14 = .ok (.iaload, 1) := by decide +kernel
theorem dX9_lay_15 : decode cX9_lay 15 = .ok (.ifCond .ne 6, 3) := by decide +kernel
theorem dX9_lay_18 : decode cX9_lay 18 = .ok (.bipush (-2), 2) := by decide +kernel
theorem dX9_lay_20 : decode cX9_lay 20 = .ok (.ireturn, 1) := by decide +kernel
theorem dX9_lay_21 : decode cX9_lay 21 = .ok (.aload_n 0, 1) := by decide +kernel
theorem dX9_lay_22 : decode cX9_lay 22 = .ok (.invokevirtual 65, 3) := by decide +kernel
theorem dX9_lay_25 : decode cX9_lay 25 = .ok (.aload_n 0, 1) := by decide +kernel
theorem dX9_lay_26 : decode cX9_lay 26 = .ok (.getfield 23, 3) := by decide +kernel
theorem dX9_lay_29 : decode cX9_lay 29 = .ok (.iconst 0, 1) := by decide +kernel
theorem dX9_lay_30 : decode cX9_lay 30 = .ok (.iaload, 1) := by decide +kernel
theorem dX9_lay_31 : decode cX9_lay 31 = .ok (.ireturn, 1) := by decide +kernel
theorem dX9_isPart_0 : decode cX9_isPart 0 = .ok (.iload_n 1, 1) := by decide +kernel
theorem dX9_isPart_1 : decode cX9_isPart 1 = .ok (.i2l, 1) := by decide +kernel
theorem dX9_isPart_2 : decode cX9_isPart 2 = .ok (.lconst 0, 1) := by decide +kernel
theorem dX9_isPart_3 : decode cX9_isPart 3 = .ok (.aload_n 0, 1) := by decide +kernel
theorem dX9_isPart_4 : decode cX9_isPart 4 = .ok (.getfield 23, 3) := by decide +kernel
theorem dX9_isPart_7 : decode cX9_isPart 7 = .ok (.iconst 0, 1) := by decide +kernel
theorem dX9_isPart_8 : decode cX9_isPart 8 = .ok (.iaload, 1) := by decide +kernel
theorem dX9_isPart_9 : decode cX9_isPart 9 = .ok (.iconst 1, 1) := by decide +kernel
theorem dX9_isPart_10 : decode cX9_isPart 10 = .ok (.isub, 1) := by decide +kernel
theorem dX9_isPart_11 : decode cX9_isPart 11 = .ok (.i2l, 1) := by decide +kernel
theorem dX9_isPart_12 : decode cX9_isPart 12 = .ok (.invokestatic 70, 3) := by decide +kernel
theorem dX9_isPart_15 : decode cX9_isPart 15 = .ok (.ireturn, 1) := by decide +kernel
theorem dX9_isTailor_0 : decode cX9_isTailor 0 = .ok (.iload_n 1, 1) := by decide +kernel
theorem dX9_isTailor_1 : decode cX9_isTailor 1 = .ok (.i2l, 1) := by decide +kernel
theorem dX9_isTailor_2 : decode cX9_isTailor 2 = .ok (.lconst 0, 1) := by decide +kernel
theorem dX9_isTailor_3 : decode cX9_isTailor 3 = .ok (.aload_n 0, 1) := by decide +kernel
theorem dX9_isTailor_4 : decode cX9_isTailor 4 = .ok (.getfield 17, 3) := by decide +kernel
theorem dX9_isTailor_7 : decode cX9_isTailor 7 = .ok (.iconst 0, 1) := by decide +kernel
theorem dX9_isTailor_8 : decode cX9_isTailor 8 = .ok (.iaload, 1) := by decide +kernel
theorem dX9_isTailor_9 : decode cX9_isTailor 9 = .ok (.iconst 1, 1) := by decide +kernel
theorem dX9_isTailor_10 : decode cX9_isTailor 10 = .ok (.isub, 1) := by decide +kernel
theorem dX9_isTailor_11 : decode cX9_isTailor 11 = .ok (.i2l, 1) := by decide +kernel
theorem dX9_isTailor_12 : decode cX9_isTailor 12 = .ok (.invokestatic 70, 3) := by decide +kernel
theorem dX9_isTailor_15 : decode cX9_isTailor 15 = .ok (.ireturn, 1) := by decide +kernel
theorem dX9_slip_0 : decode cX9_slip 0 = .ok (.iload_n 2, 1) := by decide +kernel
theorem dX9_slip_1 : decode cX9_slip 1 = .ok (.iconst 5, 1) := by decide +kernel
theorem dX9_slip_2 : decode cX9_slip 2 = .ok (.if_icmp .ge 7, 3) := by decide +kernel
theorem dX9_slip_5 : decode cX9_slip 5 = .ok (.iload_n 2, 1) := by decide +kernel
theorem dX9_slip_6 : decode cX9_slip 6 = .ok (.goto 4, 3) := by decide +kernel
theorem dX9_slip_9 : decode cX9_slip 9 = .ok (.iconst 5, 1) := by decide +kernel
theorem dX9_slip_10 : decode cX9_slip 10 = .ok (.istore_n 3, 1) := by decide +kernel
theorem dX9_slip_11 : decode cX9_slip 11 = .ok (.ldc2_w 126, 3) := by decide +kernel
theorem dX9_slip_14 : decode cX9_slip 14 = .ok (.iload_n 0, 1) := by decide +kernel
theorem dX9_slip_15 : decode cX9_slip 15 = .ok (.i2l, 1) := by decide +kernel
theorem dX9_slip_16 : decode cX9_slip 16 = .ok (.lmul, 1) := by decide +kernel
theorem dX9_slip_17 : decode cX9_slip 17 = .ok (.ldc2_w 128, 3) := by decide +kernel
theorem dX9_slip_20 : decode cX9_slip 20 = .ok (.iload_n 1, 1) := by decide +kernel
theorem dX9_slip_21 : decode cX9_slip 21 = .ok (.i2l, 1) := by decide +kernel
theorem dX9_slip_22 : decode cX9_slip 22 = .ok (.lmul, 1) := by decide +kernel
theorem dX9_slip_23 : decode cX9_slip 23 = .ok (.ladd, 1) := by decide +kernel
theorem dX9_slip_24 : decode cX9_slip 24 = .ok (.ldc2_w 130, 3) := by decide +kernel
theorem dX9_slip_27 : decode cX9_slip 27 = .ok (.iload_n 2, 1) := by decide +kernel
theorem dX9_slip_28 : decode cX9_slip 28 = .ok (.i2l, 1) := by decide +kernel
theorem dX9_slip_29 : decode cX9_slip 29 = .ok (.lmul, 1) := by decide +kernel
theorem dX9_slip_30 : decode cX9_slip 30 = .ok (.ladd, 1) := by decide +kernel
theorem dX9_slip_31 : decode cX9_slip 31 = .ok (.lconst 1, 1) := by decide +kernel
theorem dX9_slip_32 : decode cX9_slip 32 = .ok (.ladd, 1) := by decide +kernel
theorem dX9_slip_33 : decode cX9_slip 33 = .ok (.lstore 4, 2) := by decide +kernel
theorem dX9_slip_35 : decode cX9_slip 35 = .ok (.lload 4, 2) := by decide +kernel
theorem dX9_slip_37 : decode cX9_slip 37 = .ok (.lload 4, 2) := by decide +kernel
theorem dX9_slip_39 : decode cX9_slip 39 = .ok (.lmul, 1) := by decide +kernel
theorem dX9_slip_40 : decode cX9_slip 40 = .ok (.ldc2_w 132, 3) := by decide +kernel
theorem dX9_slip_43 : decode cX9_slip 43 = .ok (.lrem, 1) := by decide +kernel
theorem dX9_slip_44 : decode cX9_slip 44 = .ok (.iconst 2, 1) := by decide +kernel
theorem dX9_slip_45 : decode cX9_slip 45 = .ok (.iload_n 3, 1) := by decide +kernel
theorem dX9_slip_46 : decode cX9_slip 46 = .ok (.imul, 1) := by decide +kernel
theorem dX9_slip_47 : decode cX9_slip 47 = .ok (.iconst 1, 1) := by decide +kernel
theorem dX9_slip_48 : decode cX9_slip 48 = .ok (.iadd, 1) := by decide +kernel
theorem dX9_slip_49 : decode cX9_slip 49 = .ok (.i2l, 1) := by decide +kernel
theorem dX9_slip_50 : decode cX9_slip 50 = .ok (.lrem, 1) := by decide +kernel
theorem dX9_slip_51 : decode cX9_slip 51 = .ok (.l2i, 1) := by decide +kernel
theorem dX9_slip_52 : decode cX9_slip 52 = .ok (.iload_n 3, 1) := by decide +kernel
theorem dX9_slip_53 : decode cX9_slip 53 = .ok (.isub, 1) := by decide +kernel
theorem dX9_slip_54 : decode cX9_slip 54 = .ok (.ireturn, 1) := by decide +kernel
theorem dX9_cutOf_0 : decode cX9_cutOf 0 = .ok (.aload_n 0, 1) := by decide +kernel
theorem dX9_cutOf_1 : decode cX9_cutOf 1 = .ok (.getfield 26, 3) := by decide +kernel
theorem dX9_cutOf_4 : decode cX9_cutOf 4 = .ok (.iconst 3, 1) := by decide +kernel
theorem dX9_cutOf_5 : decode cX9_cutOf 5 = .ok (.iload_n 1, 1) := by decide +kernel
theorem dX9_cutOf_6 : decode cX9_cutOf 6 = .ok (.imul, 1) := by decide +kernel
theorem dX9_cutOf_7 : decode cX9_cutOf 7 = .ok (.iconst 1, 1) := by decide +kernel
theorem dX9_cutOf_8 : decode cX9_cutOf 8 = .ok (.iadd, 1) := by decide +kernel
theorem dX9_cutOf_9 : decode cX9_cutOf 9 = .ok (.iaload, 1) := by decide +kernel
theorem dX9_cutOf_10 : decode cX9_cutOf 10 = .ok (.iload_n 2, 1) := by decide +kernel
theorem dX9_cutOf_11 : decode cX9_cutOf 11 = .ok (.iadd, 1) := by decide +kernel
theorem dX9_cutOf_12 : decode cX9_cutOf 12 = .ok (.aload_n 0, 1) := by decide +kernel
theorem dX9_cutOf_13 : decode cX9_cutOf 13 = .ok (.getfield 20, 3) := by decide +kernel
theorem dX9_cutOf_16 : decode cX9_cutOf 16 = .ok (.aload_n 0, 1) := by decide +kernel
theorem dX9_cutOf_17 : decode cX9_cutOf 17 = .ok (.getfield 26, 3) := by decide +kernel
theorem dX9_cutOf_20 : decode cX9_cutOf 20 = .ok (.iconst 3, 1) := by decide +kernel
theorem dX9_cutOf_21 : decode cX9_cutOf 21 = .ok (.iload_n 1, 1) := by decide +kernel
theorem dX9_cutOf_22 : decode cX9_cutOf 22 = .ok (.imul, 1) := by decide +kernel
theorem dX9_cutOf_23 : decode cX9_cutOf 23 = .ok (.iconst 0, 1) := by decide +kernel
theorem dX9_cutOf_24 : decode cX9_cutOf 24 = .ok (.iadd, 1) := by decide +kernel
theorem dX9_cutOf_25 : decode cX9_cutOf 25 = .ok (.iaload, 1) := by decide +kernel
theorem dX9_cutOf_26 : decode cX9_cutOf 26 = .ok (.iaload, 1) := by decide +kernel
theorem dX9_cutOf_27 : decode cX9_cutOf 27 = .ok (.imul, 1) := by decide +kernel
theorem dX9_cutOf_28 : decode cX9_cutOf 28 = .ok (.bipush 100, 2) := by decide +kernel
theorem dX9_cutOf_30 : decode cX9_cutOf 30 = .ok (.idiv, 1) := by decide +kernel
theorem dX9_cutOf_31 : decode cX9_cutOf 31 = .ok (.ireturn, 1) := by decide +kernel
theorem dX9_placeOf_0 : decode cX9_placeOf 0 = .ok (.iconst 0, 1) := by decide +kernel
theorem dX9_placeOf_1 : decode cX9_placeOf 1 = .ok (.istore_n 2, 1) := by decide +kernel
theorem dX9_placeOf_2 : decode cX9_placeOf 2 = .ok (.aload_n 0, 1) := by decide +kernel
theorem dX9_placeOf_3 : decode cX9_placeOf 3 = .ok (.getfield 35, 3) := by decide +kernel
theorem dX9_placeOf_6 : decode cX9_placeOf 6 = .ok (.iload_n 2, 1) := by decide +kernel
theorem dX9_placeOf_7 : decode cX9_placeOf 7 = .ok (.iaload, 1) := by decide +kernel
theorem dX9_placeOf_8 : decode cX9_placeOf 8 = .ok (.iload_n 1, 1) := by decide +kernel
theorem dX9_placeOf_9 : decode cX9_placeOf 9 = .ok (.if_icmp .eq 9, 3) := by decide +kernel
theorem dX9_placeOf_12 : decode cX9_placeOf 12 = .ok (.iinc 2 1, 3) := by decide +kernel
theorem dX9_placeOf_15 : decode cX9_placeOf 15 = .ok (.goto (-13), 3) := by decide +kernel
theorem dX9_placeOf_18 : decode cX9_placeOf 18 = .ok (.iload_n 2, 1) := by decide +kernel
theorem dX9_placeOf_19 : decode cX9_placeOf 19 = .ok (.ireturn, 1) := by decide +kernel
theorem dX9_slipNow_0 : decode cX9_slipNow 0 = .ok (.aload_n 0, 1) := by decide +kernel
theorem dX9_slipNow_1 : decode cX9_slipNow 1 = .ok (.getfield 13, 3) := by decide +kernel
theorem dX9_slipNow_4 : decode cX9_slipNow 4 = .ok (.iconst 1, 1) := by decide +kernel
theorem dX9_slipNow_5 : decode cX9_slipNow 5 = .ok (.iaload, 1) := by decide +kernel
theorem dX9_slipNow_6 : decode cX9_slipNow 6 = .ok (.iload_n 1, 1) := by decide +kernel
theorem dX9_slipNow_7 : decode cX9_slipNow 7 = .ok (.aload_n 0, 1) := by decide +kernel
theorem dX9_slipNow_8 : decode cX9_slipNow 8 = .ok (.iload_n 1, 1) := by decide +kernel
theorem dX9_slipNow_9 : decode cX9_slipNow 9 = .ok (.invokevirtual 134, 3) := by decide +kernel
theorem dX9_slipNow_12 : decode cX9_slipNow 12 = .ok (.invokestatic 137, 3) := by decide +kernel
theorem dX9_slipNow_15 : decode cX9_slipNow 15 = .ok (.ireturn, 1) := by decide +kernel
theorem dX9_lengths_0 : decode cX9_lengths 0 = .ok (.iconst 0, 1) := by decide +kernel
theorem dX9_lengths_1 : decode cX9_lengths 1 = .ok (.istore_n 1, 1) := by decide +kernel
theorem dX9_lengths_2 : decode cX9_lengths 2 = .ok (.iload_n 1, 1) := by decide +kernel
theorem dX9_lengths_3 : decode cX9_lengths 3 = .ok (.aload_n 0, 1) := by decide +kernel
theorem dX9_lengths_4 : decode cX9_lengths 4 = .ok (.getfield 23, 3) := by decide +kernel
theorem dX9_lengths_7 : decode cX9_lengths 7 = .ok (.iconst 0, 1) := by decide +kernel
theorem dX9_lengths_8 : decode cX9_lengths 8 = .ok (.iaload, 1) := by decide +kernel
theorem dX9_lengths_9 : decode cX9_lengths 9 = .ok (.if_icmp .ge 35, 3) := by decide +kernel
theorem dX9_lengths_12 : decode cX9_lengths 12 = .ok (.aload_n 0, 1) := by decide +kernel
theorem dX9_lengths_13 : decode cX9_lengths 13 = .ok (.getfield 50, 3) := by decide +kernel
theorem dX9_lengths_16 : decode cX9_lengths 16 = .ok (.iload_n 1, 1) := by decide +kernel
theorem dX9_lengths_17 : decode cX9_lengths 17 = .ok (.aload_n 0, 1) := by decide +kernel
theorem dX9_lengths_18 : decode cX9_lengths 18 = .ok (.iload_n 1, 1) := by decide +kernel
theorem dX9_lengths_19 : decode cX9_lengths 19 = .ok (.aload_n 0, 1) := by decide +kernel
theorem dX9_lengths_20 : decode cX9_lengths 20 = .ok (.iload_n 1, 1) := by decide +kernel
theorem dX9_lengths_21 : decode cX9_lengths 21 = .ok (.invokevirtual 141, 3) := by decide +kernel
theorem dX9_lengths_24 : decode cX9_lengths 24 = .ok (.invokevirtual 144, 3) := by decide +kernel
theorem dX9_lengths_27 : decode cX9_lengths 27 = .ok (.aload_n 0, 1) := by decide +kernel
theorem dX9_lengths_28 : decode cX9_lengths 28 = .ok (.getfield 35, 3) := by decide +kernel
theorem dX9_lengths_31 : decode cX9_lengths 31 = .ok (.bipush 7, 2) := by decide +kernel
theorem dX9_lengths_33 : decode cX9_lengths 33 = .ok (.iload_n 1, 1) := by decide +kernel
theorem dX9_lengths_34 : decode cX9_lengths 34 = .ok (.iadd, 1) := by decide +kernel
theorem dX9_lengths_35 : decode cX9_lengths 35 = .ok (.iaload, 1) := by decide +kernel
theorem dX9_lengths_36 : decode cX9_lengths 36 = .ok (.iadd, 1) := by decide +kernel
theorem dX9_lengths_37 : decode cX9_lengths 37 = .ok (.iastore, 1) := by decide +kernel
theorem dX9_lengths_38 : decode cX9_lengths 38 = .ok (.iinc 1 1, 3) := by decide +kernel
theorem dX9_lengths_41 : decode cX9_lengths 41 = .ok (.goto (-39), 3) := by decide +kernel
theorem dX9_lengths_44 : decode cX9_lengths 44 = .ok (.return_, 1) := by decide +kernel
theorem dX9_gapOf_0 : decode cX9_gapOf 0 = .ok (.aload_n 0, 1) := by decide +kernel
theorem dX9_gapOf_1 : decode cX9_gapOf 1 = .ok (.getfield 50, 3) := by decide +kernel
theorem dX9_gapOf_4 : decode cX9_gapOf 4 = .ok (.aload_n 0, 1) := by decide +kernel
theorem dX9_gapOf_5 : decode cX9_gapOf 5 = .ok (.getfield 32, 3) := by decide +kernel
theorem dX9_gapOf_8 : decode cX9_gapOf 8 = .ok (.iconst 2, 1) := by decide +kernel
theorem dX9_gapOf_9 : decode cX9_gapOf 9 = .ok (.iload_n 1, 1) := by decide +kernel
theorem dX9_gapOf_10 : decode cX9_gapOf 10 = .ok (.imul, 1) := by decide +kernel
theorem dX9_gapOf_11 : decode cX9_gapOf 11 = .ok (.iaload, 1) := by decide +kernel
theorem dX9_gapOf_12 : decode cX9_gapOf 12 = .ok (.iaload, 1) := by decide +kernel
theorem dX9_gapOf_13 : decode cX9_gapOf 13 = .ok (.aload_n 0, 1) := by decide +kernel
theorem dX9_gapOf_14 : decode cX9_gapOf 14 = .ok (.getfield 50, 3) := by decide +kernel
theorem dX9_gapOf_17 : decode cX9_gapOf 17 = .ok (.aload_n 0, 1) := by decide +kernel
theorem dX9_gapOf_18 : decode cX9_gapOf 18 = .ok (.getfield 32, 3) := by decide +kernel
theorem dX9_gapOf_21 : decode cX9_gapOf 21 = .ok (.iconst 2, 1) := by decide +kernel
theorem dX9_gapOf_22 : decode cX9_gapOf 22 = .ok (.iload_n 1, 1) := by decide +kernel
theorem dX9_gapOf_23 : decode cX9_gapOf 23 = .ok (.imul, 1) := by decide +kernel
theorem dX9_gapOf_24 : decode cX9_gapOf 24 = .ok (.iconst 1, 1) := by decide +kernel
theorem dX9_gapOf_25 : decode cX9_gapOf 25 = .ok (.iadd, 1) := by decide +kernel
theorem dX9_gapOf_26 : decode cX9_gapOf 26 = .ok (.iaload, 1) := by decide +kernel
theorem dX9_gapOf_27 : decode cX9_gapOf 27 = .ok (.iaload, 1) := by decide +kernel
theorem dX9_gapOf_28 : decode cX9_gapOf 28 = .ok (.isub, 1) := by decide +kernel
theorem dX9_gapOf_29 : decode cX9_gapOf 29 = .ok (.istore_n 2, 1) := by decide +kernel
theorem dX9_gapOf_30 : decode cX9_gapOf 30 = .ok (.iload_n 2, 1) := by decide +kernel
theorem dX9_gapOf_31 : decode cX9_gapOf 31 = .ok (.ifCond .ge 8, 3) := by decide +kernel
theorem dX9_gapOf_34 : decode cX9_gapOf 34 = .ok (.iload_n 2, 1) := by decide +kernel
theorem dX9_gapOf_35 : decode cX9_gapOf 35 = .ok (.ineg, 1) := by decide +kernel
theorem dX9_gapOf_36 : decode cX9_gapOf 36 = .ok (.goto 4, 3) := by decide +kernel
theorem dX9_gapOf_39 : decode cX9_gapOf 39 = .ok (.iload_n 2, 1) := by decide +kernel
theorem dX9_gapOf_40 : decode cX9_gapOf 40 = .ok (.ireturn, 1) := by decide +kernel
theorem dX9_gaps_0 : decode cX9_gaps 0 = .ok (.iconst 0, 1) := by decide +kernel
theorem dX9_gaps_1 : decode cX9_gaps 1 = .ok (.istore_n 1, 1) := by decide +kernel
theorem dX9_gaps_2 : decode cX9_gaps 2 = .ok (.iconst 0, 1) := by decide +kernel
theorem dX9_gaps_3 : decode cX9_gaps 3 = .ok (.istore_n 2, 1) := by decide +kernel
theorem dX9_gaps_4 : decode cX9_gaps 4 = .ok (.iload_n 2, 1) := by decide +kernel
theorem dX9_gaps_5 : decode cX9_gaps 5 = .ok (.aload_n 0, 1) := by decide +kernel
theorem dX9_gaps_6 : decode cX9_gaps 6 = .ok (.getfield 29, 3) := by decide +kernel
theorem dX9_gaps_9 : decode cX9_gaps 9 = .ok (.iconst 0, 1) := by decide +kernel
theorem dX9_gaps_10 : decode cX9_gaps 10 = .ok (.iaload, 1) := by decide +kernel
theorem dX9_gaps_11 : decode cX9_gaps 11 = .ok (.if_icmp .ge 17, 3) := by decide +kernel
theorem dX9_gaps_14 : decode cX9_gaps 14 = .ok (.iload_n 1, 1) := by decide +kernel
theorem dX9_gaps_15 : decode cX9_gaps 15 = .ok (.aload_n 0, 1) := by decide +kernel
theorem dX9_gaps_16 : decode cX9_gaps 16 = .ok (.iload_n 2, 1) := by decide +kernel
theorem dX9_gaps_17 : decode cX9_gaps 17 = .ok (.invokevirtual 148, 3) := by decide +kernel
theorem dX9_gaps_20 : decode cX9_gaps 20 = .ok (.iadd, 1) := by decide +kernel
theorem dX9_gaps_21 : decode cX9_gaps 21 = .ok (.istore_n 1, 1) := by decide +kernel
theorem dX9_gaps_22 : decode cX9_gaps 22 = .ok (.iinc 2 1, 3) := by decide +kernel
theorem dX9_gaps_25 : decode cX9_gaps 25 = .ok (.goto (-21), 3) := by decide +kernel
theorem dX9_gaps_28 : decode cX9_gaps 28 = .ok (.iload_n 1, 1) := by decide +kernel
theorem dX9_gaps_29 : decode cX9_gaps 29 = .ok (.ireturn, 1) := by decide +kernel
theorem dX9_isClosed_0 : decode cX9_isClosed 0 = .ok (.iconst 1, 1) := by decide +kernel
theorem dX9_isClosed_1 : decode cX9_isClosed 1 = .ok (.istore_n 1, 1) := by decide +kernel
theorem dX9_isClosed_2 : decode cX9_isClosed 2 = .ok (.iconst 0, 1) := by decide +kernel
theorem dX9_isClosed_3 : decode cX9_isClosed 3 = .ok (.istore_n 2, 1) := by decide +kernel
theorem dX9_isClosed_4 : decode cX9_isClosed 4 = .ok (.iload_n 2, 1) := by decide +kernel
theorem dX9_isClosed_5 : decode cX9_isClosed 5 = .ok (.aload_n 0, 1) := by decide +kernel
theorem dX9_isClosed_6 : decode cX9_isClosed 6 = .ok (.getfield 29, 3) := by decide +kernel
theorem dX9_isClosed_9 : decode cX9_isClosed 9 = .ok (.iconst 0, 1) := by decide +kernel
theorem dX9_isClosed_10 : decode cX9_isClosed 10 = .ok (.iaload, 1) := by decide +kernel
theorem dX9_isClosed_11 : decode cX9_isClosed 11 = .ok (.if_icmp .ge 33, 3) := by decide +kernel
theorem dX9_isClosed_14 : decode cX9_isClosed 14 = .ok (.iload_n 1, 1) := by decide +kernel
theorem dX9_isClosed_15 : decode cX9_isClosed 15 = .ok (.ifCond .eq 21, 3) := by decide +kernel
theorem dX9_isClosed_18 : decode cX9_isClosed 18 = .ok (.aload_n 0, 1) := by decide +kernel
theorem dX9_isClosed_19 : decode cX9_isClosed 19 = .ok (.iload_n 2, 1) := by decide +kernel
theorem dX9_isClosed_20 : decode cX9_isClosed 20 = .ok (.invokevirtual 148, 3) := by decide +kernel
theorem dX9_isClosed_23 : decode cX9_isClosed 23 = .ok (.aload_n 0, 1) := by decide +kernel
theorem dX9_isClosed_24 : decode cX9_isClosed 24 = .ok (.getfield 13, 3) := by decide +kernel
theorem dX9_isClosed_27 : decode cX9_isClosed 27 = .ok (.iconst 0, 1) := by decide +kernel
theorem dX9_isClosed_28 : decode cX9_isClosed 28 = .ok (.iaload, 1) := by decide +kernel
theorem dX9_isClosed_29 : decode cX9_isClosed 29 = .ok (.if_icmp .gt 7, 3) := by decide +kernel
theorem dX9_isClosed_32 : decode cX9_isClosed 32 = .ok (.iconst 1, 1) := by decide +kernel
theorem dX9_isClosed_33 : decode cX9_isClosed 33 = .ok (.goto 4, 3) := by decide +kernel
theorem dX9_isClosed_36 : decode cX9_isClosed 36 = .ok (.iconst 0, 1) := by decide +kernel
theorem dX9_isClosed_37 : decode cX9_isClosed 37 = .ok (.istore_n 1, 1) := by decide +kernel
theorem dX9_isClosed_38 : decode cX9_isClosed 38 = .ok (.iinc 2 1, 3) := by decide +kernel
theorem dX9_isClosed_41 : decode cX9_isClosed 41 = .ok (.goto (-37), 3) := by decide +kernel
theorem dX9_isClosed_44 : decode cX9_isClosed 44 = .ok (.iload_n 1, 1) := by decide +kernel
theorem dX9_isClosed_45 : decode cX9_isClosed 45 = .ok (.ireturn, 1) := by decide +kernel
theorem dX9_part_0 : decode cX9_part 0 = .ok (.aload_n 0, 1) := by decide +kernel
theorem dX9_part_1 : decode cX9_part 1 = .ok (.iload_n 1, 1) := by decide +kernel
theorem dX9_part_2 : decode cX9_part 2 = .ok (.invokevirtual 151, 3) := by decide +kernel
theorem dX9_part_5 : decode cX9_part 5 = .ok (.ifCond .eq 15, 3) := by decide +kernel
theorem dX9_part_8 : decode cX9_part 8 = .ok (.iload_n 2, 1) := by decide +kernel
theorem dX9_part_9 : decode cX9_part 9 = .ok (.i2l, 1) := by decide +kernel
theorem dX9_part_10 : decode cX9_part 10 = .ok (.lconst 0, 1) := by decide +kernel
theorem dX9_part_11 : decode cX9_part 11 = .ok (.ldc2_w 154, 3) := by decide +kernel
theorem dX9_part_14 : decode cX9_part 14 = .ok (.invokestatic 70, 3) := by decide +kernel
theorem dX9_part_17 : decode cX9_part 17 = .ok (.ifCond .ne 5, 3) := by decide +kernel
theorem dX9_part_20 : decode cX9_part 20 = .ok (.iconst (-1), 1) := by decide +kernel
theorem dX9_part_21 : decode cX9_part 21 = .ok (.ireturn, 1) := by decide +kernel
theorem dX9_part_22 : decode cX9_part 22 = .ok (.iload_n 2, 1) := by decide +kernel
theorem dX9_part_23 : decode cX9_part 23 = .ok (.tableswitch 76 3 6 #[29, 35, 44, 55], 29) := by decide +kernel
theorem dX9_part_52 : decode cX9_part 52 = .ok (.aload_n 0, 1) := by decide +kernel
theorem dX9_part_53 : decode cX9_part 53 = .ok (.iload_n 1, 1) := by decide +kernel
theorem dX9_part_54 : decode cX9_part 54 = .ok (.invokevirtual 134, 3) := by decide +kernel
theorem dX9_part_57 : decode cX9_part 57 = .ok (.ireturn, 1) := by decide +kernel
theorem dX9_part_58 : decode cX9_part 58 = .ok (.aload_n 0, 1) := by decide +kernel
theorem dX9_part_59 : decode cX9_part 59 = .ok (.iload_n 1, 1) := by decide +kernel
theorem dX9_part_60 : decode cX9_part 60 = .ok (.invokevirtual 141, 3) := by decide +kernel
theorem dX9_part_63 : decode cX9_part 63 = .ok (.bipush 100, 2) := by decide +kernel
theorem dX9_part_65 : decode cX9_part 65 = .ok (.iadd, 1) := by decide +kernel
theorem dX9_part_66 : decode cX9_part 66 = .ok (.ireturn, 1) := by decide +kernel
theorem dX9_part_67 : decode cX9_part 67 = .ok (.aload_n 0, 1) := by decide +kernel
theorem dX9_part_68 : decode cX9_part 68 = .ok (.iload_n 1, 1) := by decide +kernel
theorem dX9_part_69 : decode cX9_part 69 = .ok (.aload_n 0, 1) := by decide +kernel
theorem dX9_part_70 : decode cX9_part 70 = .ok (.iload_n 1, 1) := by decide +kernel
theorem dX9_part_71 : decode cX9_part 71 = .ok (.invokevirtual 141, 3) := by decide +kernel
theorem dX9_part_74 : decode cX9_part 74 = .ok (.invokevirtual 144, 3) := by decide +kernel
theorem dX9_part_77 : decode cX9_part 77 = .ok (.ireturn, 1) := by decide +kernel
theorem dX9_part_78 : decode cX9_part 78 = .ok (.aload_n 0, 1) := by decide +kernel
theorem dX9_part_79 : decode cX9_part 79 = .ok (.iload_n 1, 1) := by decide +kernel
theorem dX9_part_80 : decode cX9_part 80 = .ok (.aload_n 0, 1) := by decide +kernel
theorem dX9_part_81 : decode cX9_part 81 = .ok (.iload_n 1, 1) := by decide +kernel
theorem dX9_part_82 : decode cX9_part 82 = .ok (.invokevirtual 141, 3) := by decide +kernel
theorem dX9_part_85 : decode cX9_part 85 = .ok (.invokevirtual 144, 3) := by decide +kernel
theorem dX9_part_88 : decode cX9_part 88 = .ok (.aload_n 0, 1) := by decide +kernel
theorem dX9_part_89 : decode cX9_part 89 = .ok (.getfield 35, 3) := by decide +kernel
theorem dX9_part_92 : decode cX9_part 92 = .ok (.bipush 7, 2) := by decide +kernel
theorem dX9_part_94 : decode cX9_part 94 = .ok (.iload_n 1, 1) := by decide +kernel
theorem dX9_part_95 : decode cX9_part 95 = .ok (.iadd, 1) := by decide +kernel
theorem dX9_part_96 : decode cX9_part 96 = .ok (.iaload, 1) := by decide +kernel
theorem dX9_part_97 : decode cX9_part 97 = .ok (.iadd, 1) := by decide +kernel
theorem dX9_part_98 : decode cX9_part 98 = .ok (.ireturn, 1) := by decide +kernel
theorem dX9_part_99 : decode cX9_part 99 = .ok (.aload_n 0, 1) := by decide +kernel
theorem dX9_part_100 : decode cX9_part 100 = .ok (.getfield 26, 3) := by decide +kernel
theorem dX9_part_103 : decode cX9_part 103 = .ok (.iconst 3, 1) := by decide +kernel
theorem dX9_part_104 : decode cX9_part 104 = .ok (.iload_n 1, 1) := by decide +kernel
theorem dX9_part_105 : decode cX9_part 105 = .ok (.imul, 1) := by decide +kernel
theorem dX9_part_106 : decode cX9_part 106 = .ok (.iload_n 2, 1) := by decide +kernel
theorem dX9_part_107 : decode cX9_part 107 = .ok (.iadd, 1) := by decide +kernel
theorem dX9_part_108 : decode cX9_part 108 = .ok (.iaload, 1) := by decide +kernel
theorem dX9_part_109 : decode cX9_part 109 = .ok (.ireturn, 1) := by decide +kernel
theorem dX9_gap_0 : decode cX9_gap 0 = .ok (.iload_n 1, 1) := by decide +kernel
theorem dX9_gap_1 : decode cX9_gap 1 = .ok (.i2l, 1) := by decide +kernel
theorem dX9_gap_2 : decode cX9_gap 2 = .ok (.ldc2_w 156, 3) := by decide +kernel
theorem dX9_gap_5 : decode cX9_gap 5 = .ok (.aload_n 0, 1) := by decide +kernel
theorem dX9_gap_6 : decode cX9_gap 6 = .ok (.getfield 29, 3) := by decide +kernel
theorem dX9_gap_9 : decode cX9_gap 9 = .ok (.iconst 0, 1) := by decide +kernel
theorem dX9_gap_10 : decode cX9_gap 10 = .ok (.iaload, 1) := by decide +kernel
theorem dX9_gap_11 : decode cX9_gap 11 = .ok (.iconst 1, 1) := by decide +kernel
theorem dX9_gap_12 : decode cX9_gap 12 = .ok (.isub, 1) := by decide +kernel
theorem dX9_gap_13 : decode cX9_gap 13 = .ok (.i2l, 1) := by decide +kernel
theorem dX9_gap_14 : decode cX9_gap 14 = .ok (.invokestatic 70, 3) := by decide +kernel
theorem dX9_gap_17 : decode cX9_gap 17 = .ok (.ifCond .ne 5, 3) := by decide +kernel
theorem dX9_gap_20 : decode cX9_gap 20 = .ok (.iconst (-1), 1) := by decide +kernel
theorem dX9_gap_21 : decode cX9_gap 21 = .ok (.ireturn, 1) := by decide +kernel
theorem dX9_gap_22 : decode cX9_gap 22 = .ok (.aload_n 0, 1) := by decide +kernel
theorem dX9_gap_23 : decode cX9_gap 23 = .ok (.invokevirtual 158, 3) := by decide +kernel
theorem dX9_gap_26 : decode cX9_gap 26 = .ok (.iload_n 1, 1) := by decide +kernel
theorem dX9_gap_27 : decode cX9_gap 27 = .ok (.ifCond .ge 10, 3) := by decide +kernel
theorem dX9_gap_30 : decode cX9_gap 30 = .ok (.aload_n 0, 1) := by decide +kernel
theorem dX9_gap_31 : decode cX9_gap 31 = .ok (.invokevirtual 161, 3) := by decide +kernel
theorem dX9_gap_34 : decode cX9_gap 34 = .ok (.goto 8, 3) := by decide +kernel
theorem dX9_gap_37 : decode cX9_gap 37 = .ok (.aload_n 0, 1) := by decide +kernel
theorem dX9_gap_38 : decode cX9_gap 38 = .ok (.iload_n 1, 1) := by decide +kernel
theorem dX9_gap_39 : decode cX9_gap 39 = .ok (.invokevirtual 148, 3) := by decide +kernel
theorem dX9_gap_42 : decode cX9_gap 42 = .ok (.ireturn, 1) := by decide +kernel
theorem dX9_closes_0 : decode cX9_closes 0 = .ok (.aload_n 0, 1) := by decide +kernel
theorem dX9_closes_1 : decode cX9_closes 1 = .ok (.invokevirtual 158, 3) := by decide +kernel
theorem dX9_closes_4 : decode cX9_closes 4 = .ok (.aload_n 0, 1) := by decide +kernel
theorem dX9_closes_5 : decode cX9_closes 5 = .ok (.invokevirtual 164, 3) := by decide +kernel
theorem dX9_closes_8 : decode cX9_closes 8 = .ok (.ifCond .eq 7, 3) := by decide +kernel
theorem dX9_closes_11 : decode cX9_closes 11 = .ok (.iconst 1, 1) := by decide +kernel
theorem dX9_closes_12 : decode cX9_closes 12 = .ok (.goto 4, 3) := by decide +kernel
theorem dX9_closes_15 : decode cX9_closes 15 = .ok (.iconst 0, 1) := by decide +kernel
theorem dX9_closes_16 : decode cX9_closes 16 = .ok (.ireturn, 1) := by decide +kernel
theorem dX9_copies_0 : decode cX9_copies 0 = .ok (.iconst 0, 1) := by decide +kernel
theorem dX9_copies_1 : decode cX9_copies 1 = .ok (.istore_n 3, 1) := by decide +kernel
theorem dX9_copies_2 : decode cX9_copies 2 = .ok (.iload_n 3, 1) := by decide +kernel
theorem dX9_copies_3 : decode cX9_copies 3 = .ok (.bipush 14, 2) := by decide +kernel
theorem dX9_copies_5 : decode cX9_copies 5 = .ok (.if_icmp .ge 31, 3) := by decide +kernel
theorem dX9_copies_8 : decode cX9_copies 8 = .ok (.aload_n 0, 1) := by decide +kernel
theorem dX9_copies_9 : decode cX9_copies 9 = .ok (.getfield 35, 3) := by decide +kernel
theorem dX9_copies_12 : decode cX9_copies 12 = .ok (.bipush 14, 2) := by decide +kernel
theorem dX9_copies_14 : decode cX9_copies 14 = .ok (.iload_n 2, 1) := by decide +kernel
theorem dX9_copies_15 : decode cX9_copies 15 = .ok (.imul, 1) := by decide +kernel
theorem dX9_copies_16 : decode cX9_copies 16 = .ok (.iload_n 3, 1) := by decide +kernel
theorem dX9_copies_17 : decode cX9_copies 17 = .ok (.iadd, 1) := by decide +kernel
theorem dX9_copies_18 : decode cX9_copies 18 = .ok (.aload_n 0, 1) := by decide +kernel
theorem dX9_copies_19 : decode cX9_copies 19 = .ok (.getfield 35, 3) := by decide +kernel
theorem dX9_copies_22 : decode cX9_copies 22 = .ok (.bipush 14, 2) := by decide +kernel
theorem dX9_copies_24 : decode cX9_copies 24 = .ok (.iload_n 1, 1) := by decide +kernel
theorem dX9_copies_25 : decode cX9_copies 25 = .ok (.imul, 1) := by decide +kernel
theorem dX9_copies_26 : decode cX9_copies 26 = .ok (.iload_n 3, 1) := by decide +kernel
theorem dX9_copies_27 : decode cX9_copies 27 = .ok (.iadd, 1) := by decide +kernel
theorem dX9_copies_28 : decode cX9_copies 28 = .ok (.iaload, 1) := by decide +kernel
theorem dX9_copies_29 : decode cX9_copies 29 = .ok (.iastore, 1) := by decide +kernel
theorem dX9_copies_30 : decode cX9_copies 30 = .ok (.iinc 3 1, 3) := by decide +kernel
theorem dX9_copies_33 : decode cX9_copies 33 = .ok (.goto (-31), 3) := by decide +kernel
theorem dX9_copies_36 : decode cX9_copies 36 = .ok (.return_, 1) := by decide +kernel
theorem dX9_known_0 : decode cX9_known 0 = .ok (.aload_n 0, 1) := by decide +kernel
theorem dX9_known_1 : decode cX9_known 1 = .ok (.getfield 113, 3) := by decide +kernel
theorem dX9_known_4 : decode cX9_known 4 = .ok (.bipush 8, 2) := by decide +kernel
theorem dX9_known_6 : decode cX9_known 6 = .ok (.if_icmp .ne 35, 3) := by decide +kernel
theorem dX9_known_9 : decode cX9_known 9 = .ok (.iconst 3, 1) := by decide +kernel
theorem dX9_known_10 : decode cX9_known 10 = .ok (.istore_n 1, 1) := by decide +kernel
theorem dX9_known_11 : decode cX9_known 11 = .ok (.iload_n 1, 1) := by decide +kernel
theorem dX9_known_12 : decode cX9_known 12 = .ok (.bipush 10, 2) := by decide +kernel
theorem dX9_known_14 : decode cX9_known 14 = .ok (.if_icmp .ge 17, 3) := by decide +kernel
theorem dX9_known_17 : decode cX9_known 17 = .ok (.aload_n 0, 1) := by decide +kernel
theorem dX9_known_18 : decode cX9_known 18 = .ok (.iload_n 1, 1) := by decide +kernel
theorem dX9_known_19 : decode cX9_known 19 = .ok (.iconst 1, 1) := by decide +kernel
theorem dX9_known_20 : decode cX9_known 20 = .ok (.iadd, 1) := by decide +kernel
theorem dX9_known_21 : decode cX9_known 21 = .ok (.iload_n 1, 1) := by decide +kernel
theorem dX9_known_22 : decode cX9_known 22 = .ok (.invokevirtual 167, 3) := by decide +kernel
theorem dX9_known_25 : decode cX9_known 25 = .ok (.iinc 1 1, 3) := by decide +kernel
theorem dX9_known_28 : decode cX9_known 28 = .ok (.goto (-17), 3) := by decide +kernel
theorem dX9_known_31 : decode cX9_known 31 = .ok (.aload_n 0, 1) := by decide +kernel
theorem dX9_known_32 : decode cX9_known 32 = .ok (.dup, 1) := by decide +kernel
theorem dX9_known_33 : decode cX9_known 33 = .ok (.getfield 113, 3) := by decide +kernel
theorem dX9_known_36 : decode cX9_known 36 = .ok (.iconst 1, 1) := by decide +kernel
theorem dX9_known_37 : decode cX9_known 37 = .ok (.isub, 1) := by decide +kernel
theorem dX9_known_38 : decode cX9_known 38 = .ok (.putfield 113, 3) := by decide +kernel
theorem dX9_known_41 : decode cX9_known 41 = .ok (.aload_n 0, 1) := by decide +kernel
theorem dX9_known_42 : decode cX9_known 42 = .ok (.iconst 0, 1) := by decide +kernel
theorem dX9_known_43 : decode cX9_known 43 = .ok (.iconst 3, 1) := by decide +kernel
theorem dX9_known_44 : decode cX9_known 44 = .ok (.aload_n 0, 1) := by decide +kernel
theorem dX9_known_45 : decode cX9_known 45 = .ok (.getfield 113, 3) := by decide +kernel
theorem dX9_known_48 : decode cX9_known 48 = .ok (.iadd, 1) := by decide +kernel
theorem dX9_known_49 : decode cX9_known 49 = .ok (.invokevirtual 167, 3) := by decide +kernel
theorem dX9_known_52 : decode cX9_known 52 = .ok (.aload_n 0, 1) := by decide +kernel
theorem dX9_known_53 : decode cX9_known 53 = .ok (.dup, 1) := by decide +kernel
theorem dX9_known_54 : decode cX9_known 54 = .ok (.getfield 113, 3) := by decide +kernel
theorem dX9_known_57 : decode cX9_known 57 = .ok (.iconst 1, 1) := by decide +kernel
theorem dX9_known_58 : decode cX9_known 58 = .ok (.iadd, 1) := by decide +kernel
theorem dX9_known_59 : decode cX9_known 59 = .ok (.putfield 113, 3) := by decide +kernel
theorem dX9_known_62 : decode cX9_known 62 = .ok (.return_, 1) := by decide +kernel
theorem dX9_change_0 : decode cX9_change 0 = .ok (.aload_n 0, 1) := by decide +kernel
theorem dX9_change_1 : decode cX9_change 1 = .ok (.iload_n 1, 1) := by decide +kernel
theorem dX9_change_2 : decode cX9_change 2 = .ok (.invokevirtual 151, 3) := by decide +kernel
theorem dX9_change_5 : decode cX9_change 5 = .ok (.ifCond .eq 16, 3) := by decide +kernel
theorem dX9_change_8 : decode cX9_change 8 = .ok (.aload_n 0, 1) := by decide +kernel
theorem dX9_change_9 : decode cX9_change 9 = .ok (.iload_n 2, 1) := by decide +kernel
theorem dX9_change_10 : decode cX9_change 10 = .ok (.invokevirtual 151, 3) := by decide +kernel
theorem dX9_change_13 : decode cX9_change 13 = .ok (.ifCond .eq 8, 3) := by decide +kernel
theorem dX9_change_16 : decode cX9_change 16 = .ok (.iload_n 1, 1) := by decide +kernel
theorem dX9_change_17 : decode cX9_change 17 = .ok (.iload_n 2, 1) := by decide +kernel
theorem dX9_change_18 : decode cX9_change 18 = .ok (.if_icmp .ne 5, 3) := by decide +kernel
theorem dX9_change_21 : decode cX9_change 21 = .ok (.iconst (-1), 1) := by decide +kernel
theorem dX9_change_22 : decode cX9_change 22 = .ok (.ireturn, 1) := by decide +kernel
theorem dX9_change_23 : decode cX9_change 23 = .ok (.aload_n 0, 1) := by decide +kernel
theorem dX9_change_24 : decode cX9_change 24 = .ok (.invokevirtual 171, 3) := by decide +kernel
theorem dX9_change_27 : decode cX9_change 27 = .ok (.aload_n 0, 1) := by decide +kernel
theorem dX9_change_28 : decode cX9_change 28 = .ok (.getfield 35, 3) := by decide +kernel
theorem dX9_change_31 : decode cX9_change 31 = .ok (.iload_n 1, 1) := by decide +kernel
theorem dX9_change_32 : decode cX9_change 32 = .ok (.iaload, 1) := by decide +kernel
theorem dX9_change_33 : decode cX9_change 33 = .ok (.istore_n 3, 1) := by decide +kernel
theorem dX9_change_34 : decode cX9_change 34 = .ok (.aload_n 0, 1) := by decide +kernel
theorem dX9_change_35 : decode cX9_change 35 = .ok (.getfield 35, 3) := by decide +kernel
theorem dX9_change_38 : decode cX9_change 38 = .ok (.iload_n 1, 1) := by decide +kernel
theorem dX9_change_39 : decode cX9_change 39 = .ok (.aload_n 0, 1) := by decide +kernel
theorem dX9_change_40 : decode cX9_change 40 = .ok (.getfield 35, 3) := by decide +kernel
theorem dX9_change_43 : decode cX9_change 43 = .ok (.iload_n 2, 1) := by decide +kernel
theorem dX9_change_44 : decode cX9_change 44 = .ok (.iaload, 1) := by decide +kernel
theorem dX9_change_45 : decode cX9_change 45 = .ok (.iastore, 1) := by decide +kernel
theorem dX9_change_46 : decode cX9_change 46 = .ok (.aload_n 0, 1) := by decide +kernel
theorem dX9_change_47 : decode cX9_change 47 = .ok (.getfield 35, 3) := by decide +kernel
theorem dX9_change_50 : decode cX9_change 50 = .ok (.iload_n 2, 1) := by decide +kernel
theorem dX9_change_51 : decode cX9_change 51 = .ok (.iload_n 3, 1) := by decide +kernel
theorem dX9_change_52 : decode cX9_change 52 = .ok (.iastore, 1) := by decide +kernel
theorem dX9_change_53 : decode cX9_change 53 = .ok (.iconst 0, 1) := by decide +kernel
theorem dX9_change_54 : decode cX9_change 54 = .ok (.istore 4, 2) := by decide +kernel
theorem dX9_change_56 : decode cX9_change 56 = .ok (.iload 4, 2) := by decide +kernel
theorem dX9_change_58 : decode cX9_change 58 = .ok (.bipush 7, 2) := by decide +kernel
theorem dX9_change_60 : decode cX9_change 60 = .ok (.if_icmp .ge 20, 3) := by decide +kernel
theorem dX9_change_63 : decode cX9_change 63 = .ok (.aload_n 0, 1) := by decide +kernel
theorem dX9_change_64 : decode cX9_change 64 = .ok (.getfield 35, 3) := by decide +kernel
theorem dX9_change_67 : decode cX9_change 67 = .ok (.bipush 7, 2) := by decide +kernel
theorem dX9_change_69 : decode cX9_change 69 = .ok (.iload 4, 2) := by decide +kernel
theorem dX9_change_71 : decode cX9_change 71 = .ok (.iadd, 1) := by decide +kernel
theorem dX9_change_72 : decode cX9_change 72 = .ok (.iconst 0, 1) := by decide +kernel
theorem dX9_change_73 : decode cX9_change 73 = .ok (.iastore, 1) := by decide +kernel
theorem dX9_change_74 : decode cX9_change 74 = .ok (.iinc 4 1, 3) := by decide +kernel
theorem dX9_change_77 : decode cX9_change 77 = .ok (.goto (-21), 3) := by decide +kernel
theorem dX9_change_80 : decode cX9_change 80 = .ok (.aload_n 0, 1) := by decide +kernel
theorem dX9_change_81 : decode cX9_change 81 = .ok (.invokevirtual 158, 3) := by decide +kernel
theorem dX9_change_84 : decode cX9_change 84 = .ok (.aload_n 0, 1) := by decide +kernel
theorem dX9_change_85 : decode cX9_change 85 = .ok (.invokevirtual 161, 3) := by decide +kernel
theorem dX9_change_88 : decode cX9_change 88 = .ok (.ireturn, 1) := by decide +kernel
theorem dX9_alter_0 : decode cX9_alter 0 = .ok (.aload_n 0, 1) := by decide +kernel
theorem dX9_alter_1 : decode cX9_alter 1 = .ok (.iload_n 1, 1) := by decide +kernel
theorem dX9_alter_2 : decode cX9_alter 2 = .ok (.invokevirtual 151, 3) := by decide +kernel
theorem dX9_alter_5 : decode cX9_alter 5 = .ok (.ifCond .eq 17, 3) := by decide +kernel
theorem dX9_alter_8 : decode cX9_alter 8 = .ok (.iload_n 2, 1) := by decide +kernel
theorem dX9_alter_9 : decode cX9_alter 9 = .ok (.i2l, 1) := by decide +kernel
theorem dX9_alter_10 : decode cX9_alter 10 = .ok (.ldc2_w 174, 3) := by decide +kernel
theorem dX9_alter_13 : decode cX9_alter 13 = .ok (.ldc2_w 176, 3) := by decide +kernel
theorem dX9_alter_16 : decode cX9_alter 16 = .ok (.invokestatic 70, 3) := by decide +kernel
theorem dX9_alter_19 : decode cX9_alter 19 = .ok (.ifCond .ne 5, 3) := by decide +kernel
theorem dX9_alter_22 : decode cX9_alter 22 = .ok (.iconst (-1), 1) := by decide +kernel
theorem dX9_alter_23 : decode cX9_alter 23 = .ok (.ireturn, 1) := by decide +kernel
theorem dX9_alter_24 : decode cX9_alter 24 = .ok (.aload_n 0, 1) := by decide +kernel
theorem dX9_alter_25 : decode cX9_alter 25 = .ok (.iload_n 1, 1) := by decide +kernel
theorem dX9_alter_26 : decode cX9_alter 26 = .ok (.bipush 6, 2) := by decide +kernel
theorem dX9_alter_28 : decode cX9_alter 28 = .ok (.invokevirtual 178, 3) := by decide +kernel
theorem dX9_alter_31 : decode cX9_alter 31 = .ok (.iload_n 2, 1) := by decide +kernel
theorem dX9_alter_32 : decode cX9_alter 32 = .ok (.iadd, 1) := by decide +kernel
theorem dX9_alter_33 : decode cX9_alter 33 = .ok (.istore_n 3, 1) := by decide +kernel
theorem dX9_alter_34 : decode cX9_alter 34 = .ok (.iload_n 3, 1) := by decide +kernel
theorem dX9_alter_35 : decode cX9_alter 35 = .ok (.i2l, 1) := by decide +kernel
theorem dX9_alter_36 : decode cX9_alter 36 = .ok (.lconst 1, 1) := by decide +kernel
theorem dX9_alter_37 : decode cX9_alter 37 = .ok (.ldc2_w 180, 3) := by decide +kernel
theorem dX9_alter_40 : decode cX9_alter 40 = .ok (.invokestatic 70, 3) := by decide +kernel
theorem dX9_alter_43 : decode cX9_alter 43 = .ok (.ifCond .ne 6, 3) := by decide +kernel
theorem dX9_alter_46 : decode cX9_alter 46 = .ok (.bipush (-2), 2) := by decide +kernel
theorem dX9_alter_48 : decode cX9_alter 48 = .ok (.ireturn, 1) := by decide +kernel
theorem dX9_alter_49 : decode cX9_alter 49 = .ok (.aload_n 0, 1) := by decide +kernel
theorem dX9_alter_50 : decode cX9_alter 50 = .ok (.invokevirtual 171, 3) := by decide +kernel
theorem dX9_alter_53 : decode cX9_alter 53 = .ok (.aload_n 0, 1) := by decide +kernel
theorem dX9_alter_54 : decode cX9_alter 54 = .ok (.getfield 35, 3) := by decide +kernel
theorem dX9_alter_57 : decode cX9_alter 57 = .ok (.bipush 7, 2) := by decide +kernel
theorem dX9_alter_59 : decode cX9_alter 59 = .ok (.iload_n 1, 1) := by decide +kernel
theorem dX9_alter_60 : decode cX9_alter 60 = .ok (.iadd, 1) := by decide +kernel
theorem dX9_alter_61 : decode cX9_alter 61 = .ok (.dup2, 1) := by decide +kernel
theorem dX9_alter_62 : decode cX9_alter 62 = .ok (.iaload, 1) := by decide +kernel
theorem dX9_alter_63 : decode cX9_alter 63 = .ok (.iload_n 2, 1) := by decide +kernel
theorem dX9_alter_64 : decode cX9_alter 64 = .ok (.iadd, 1) := by decide +kernel
theorem dX9_alter_65 : decode cX9_alter 65 = .ok (.iastore, 1) := by decide +kernel
theorem dX9_alter_66 : decode cX9_alter 66 = .ok (.iload_n 3, 1) := by decide +kernel
theorem dX9_alter_67 : decode cX9_alter 67 = .ok (.ireturn, 1) := by decide +kernel
theorem dX9_undo_0 : decode cX9_undo 0 = .ok (.aload_n 0, 1) := by decide +kernel
theorem dX9_undo_1 : decode cX9_undo 1 = .ok (.getfield 113, 3) := by decide +kernel
theorem dX9_undo_4 : decode cX9_undo 4 = .ok (.ifCond .ne 6, 3) := by decide +kernel
theorem dX9_undo_7 : decode cX9_undo 7 = .ok (.bipush (-2), 2) := by decide +kernel
theorem dX9_undo_9 : decode cX9_undo 9 = .ok (.ireturn, 1) := by decide +kernel
theorem dX9_undo_10 : decode cX9_undo 10 = .ok (.aload_n 0, 1) := by decide +kernel
theorem dX9_undo_11 : decode cX9_undo 11 = .ok (.dup, 1) := by decide +kernel
theorem dX9_undo_12 : decode cX9_undo 12 = .ok (.getfield 113, 3) := by decide +kernel
theorem dX9_undo_15 : decode cX9_undo 15 = .ok (.iconst 1, 1) := by decide +kernel
theorem dX9_undo_16 : decode cX9_undo 16 = .ok (.isub, 1) := by decide +kernel
theorem dX9_undo_17 : decode cX9_undo 17 = .ok (.putfield 113, 3) := by decide +kernel
theorem dX9_undo_20 : decode cX9_undo 20 = .ok (.aload_n 0, 1) := by decide +kernel
theorem dX9_undo_21 : decode cX9_undo 21 = .ok (.iconst 3, 1) := by decide +kernel
theorem dX9_undo_22 : decode cX9_undo 22 = .ok (.aload_n 0, 1) := by decide +kernel
theorem dX9_undo_23 : decode cX9_undo 23 = .ok (.getfield 113, 3) := by decide +kernel
theorem dX9_undo_26 : decode cX9_undo 26 = .ok (.iadd, 1) := by decide +kernel
theorem dX9_undo_27 : decode cX9_undo 27 = .ok (.iconst 0, 1) := by decide +kernel
theorem dX9_undo_28 : decode cX9_undo 28 = .ok (.invokevirtual 167, 3) := by decide +kernel
theorem dX9_undo_31 : decode cX9_undo 31 = .ok (.aload_n 0, 1) := by decide +kernel
theorem dX9_undo_32 : decode cX9_undo 32 = .ok (.getfield 113, 3) := by decide +kernel
theorem dX9_undo_35 : decode cX9_undo 35 = .ok (.ireturn, 1) := by decide +kernel
theorem dX9_nextOrder_0 : decode cX9_nextOrder 0 = .ok (.aload_n 0, 1) := by decide +kernel
theorem dX9_nextOrder_1 : decode cX9_nextOrder 1 = .ok (.getfield 23, 3) := by decide +kernel
theorem dX9_nextOrder_4 : decode cX9_nextOrder 4 = .ok (.iconst 0, 1) := by decide +kernel
theorem dX9_nextOrder_5 : decode cX9_nextOrder 5 = .ok (.iaload, 1) := by decide +kernel
theorem dX9_nextOrder_6 : decode cX9_nextOrder 6 = .ok (.istore_n 1, 1) := by decide +kernel
theorem dX9_nextOrder_7 : decode cX9_nextOrder 7 = .ok (.iload_n 1, 1) := by decide +kernel
theorem dX9_nextOrder_8 : decode cX9_nextOrder 8 = .ok (.iconst 2, 1) := by decide +kernel
theorem dX9_nextOrder_9 : decode cX9_nextOrder 9 = .ok (.isub, 1) := by decide +kernel
theorem dX9_nextOrder_10 : decode cX9_nextOrder 10 = .ok (.istore_n 2, 1) := by decide +kernel
theorem dX9_nextOrder_11 : decode cX9_nextOrder 11 = .ok (.iload_n 2, 1) := by decide +kernel
theorem dX9_nextOrder_12 : decode cX9_nextOrder 12 = .ok (.ifCond .lt 26, 3) := by decide +kernel
theorem dX9_nextOrder_15 : decode cX9_nextOrder 15 = .ok (.aload_n 0, 1) := by decide +kernel
theorem dX9_nextOrder_16 : decode cX9_nextOrder 16 = .ok (.getfield 44, 3) := by decide +kernel
theorem dX9_nextOrder_19 : decode cX9_nextOrder 19 = .ok (.iload_n 2, 1) := by decide +kernel
theorem dX9_nextOrder_20 : decode cX9_nextOrder 20 = .ok (.iaload, 1) := by decide +kernel
theorem dX9_nextOrder_21 : decode cX9_nextOrder 21 = .ok (.aload_n 0, 1) := by decide +kernel
theorem dX9_nextOrder_22 : decode cX9_nextOrder 22 = .ok (.getfield 44, 3) := by decide +kernel
theorem dX9_nextOrder_25 : decode cX9_nextOrder 25 = .ok (.iload_n 2, 1) := by decide +kernel
theorem dX9_nextOrder_26 : decode cX9_nextOrder 26 = .ok (.iconst 1, 1) := by decide +kernel
theorem dX9_nextOrder_27 : decode cX9_nextOrder 27 = .ok (.iadd, 1) := by decide +kernel
theorem dX9_nextOrder_28 : decode cX9_nextOrder 28 = .ok (.iaload, 1) := by decide +kernel
theorem dX9_nextOrder_29 : decode cX9_nextOrder 29 = .ok (.if_icmp .le 9, 3) := by decide +kernel
theorem dX9_nextOrder_32 : decode cX9_nextOrder 32 = .ok (.iinc 2 (-1), 3) := by decide +kernel
theorem dX9_nextOrder_35 : decode cX9_nextOrder 35 = .ok (.goto (-24), 3) := by decide +kernel
theorem dX9_nextOrder_38 : decode cX9_nextOrder 38 = .ok (.iload_n 2, 1) := by decide +kernel
theorem dX9_nextOrder_39 : decode cX9_nextOrder 39 = .ok (.ifCond .ge 5, 3) := by decide +kernel
theorem dX9_nextOrder_42 : decode cX9_nextOrder 42 = .ok (.iconst 0, 1) := by decide +kernel
theorem dX9_nextOrder_43 : decode cX9_nextOrder 43 = .ok (.ireturn, 1) := by decide +kernel
theorem dX9_nextOrder_44 : decode cX9_nextOrder 44 = .ok (.iload_n 1, 1) := by decide +kernel
theorem dX9_nextOrder_45 : decode cX9_nextOrder 45 = .ok (.iconst 1, 1) := by decide +kernel
theorem dX9_nextOrder_46 : decode cX9_nextOrder 46 = .ok (.isub, 1) := by decide +kernel
theorem dX9_nextOrder_47 : decode cX9_nextOrder 47 = .ok (.istore_n 3, 1) := by decide +kernel
theorem dX9_nextOrder_48 : decode cX9_nextOrder 48 = .ok (.aload_n 0, 1) := by decide +kernel
theorem dX9_nextOrder_49 : decode cX9_nextOrder 49 = .ok (.getfield 44, 3) := by decide +kernel
theorem dX9_nextOrder_52 : decode cX9_nextOrder 52 = .ok (.iload_n 3, 1) := by decide +kernel
theorem dX9_nextOrder_53 : decode cX9_nextOrder 53 = .ok (.iaload, 1) := by decide +kernel
theorem dX9_nextOrder_54 : decode cX9_nextOrder 54 = .ok (.aload_n 0, 1) := by decide +kernel
theorem dX9_nextOrder_55 : decode cX9_nextOrder 55 = .ok (.getfield 44, 3) := by decide +kernel
theorem dX9_nextOrder_58 : decode cX9_nextOrder 58 = .ok (.iload_n 2, 1) := by decide +kernel
theorem dX9_nextOrder_59 : decode cX9_nextOrder 59 = .ok (.iaload, 1) := by decide +kernel
theorem dX9_nextOrder_60 : decode cX9_nextOrder 60 = .ok (.if_icmp .ge 9, 3) := by decide +kernel
theorem dX9_nextOrder_63 : decode cX9_nextOrder 63 = .ok (.iinc 3 (-1), 3) := by decide +kernel
theorem dX9_nextOrder_66 : decode cX9_nextOrder 66 = .ok (.goto (-18), 3) := by decide +kernel
theorem dX9_nextOrder_69 : decode cX9_nextOrder 69 = .ok (.aload_n 0, 1) := by decide +kernel
theorem dX9_nextOrder_70 : decode cX9_nextOrder 70 = .ok (.getfield 44, 3) := by decide +kernel
theorem dX9_nextOrder_73 : decode cX9_nextOrder 73 = .ok (.iload_n 2, 1) := by decide +kernel
theorem dX9_nextOrder_74 : decode cX9_nextOrder 74 = .ok (.iaload, 1) := by decide +kernel
theorem dX9_nextOrder_75 : decode cX9_nextOrder 75 = .ok (.istore 4, 2) := by decide +kernel
theorem dX9_nextOrder_77 : decode cX9_nextOrder 77 = .ok (.aload_n 0, 1) := by decide +kernel
theorem dX9_nextOrder_78 : decode cX9_nextOrder 78 = .ok (.getfield 44, 3) := by decide +kernel
theorem dX9_nextOrder_81 : decode cX9_nextOrder 81 = .ok (.iload_n 2, 1) := by decide +kernel
theorem dX9_nextOrder_82 : decode cX9_nextOrder 82 = .ok (.aload_n 0, 1) := by decide +kernel
theorem dX9_nextOrder_83 : decode cX9_nextOrder 83 = .ok (.getfield 44, 3) := by decide +kernel
theorem dX9_nextOrder_86 : decode cX9_nextOrder 86 = .ok (.iload_n 3, 1) := by decide +kernel
theorem dX9_nextOrder_87 : decode cX9_nextOrder 87 = .ok (.iaload, 1) := by decide +kernel
theorem dX9_nextOrder_88 : decode cX9_nextOrder 88 = .ok (.iastore, 1) := by decide +kernel
theorem dX9_nextOrder_89 : decode cX9_nextOrder 89 = .ok (.aload_n 0, 1) := by decide +kernel
theorem dX9_nextOrder_90 : decode cX9_nextOrder 90 = .ok (.getfield 44, 3) := by decide +kernel
theorem dX9_nextOrder_93 : decode cX9_nextOrder 93 = .ok (.iload_n 3, 1) := by decide +kernel
theorem dX9_nextOrder_94 : decode cX9_nextOrder 94 = .ok (.iload 4, 2) := by decide +kernel
theorem dX9_nextOrder_96 : decode cX9_nextOrder 96 = .ok (.iastore, 1) := by decide +kernel
theorem dX9_nextOrder_97 : decode cX9_nextOrder 97 = .ok (.iload_n 2, 1) := by decide +kernel
theorem dX9_nextOrder_98 : decode cX9_nextOrder 98 = .ok (.iconst 1, 1) := by decide +kernel
theorem dX9_nextOrder_99 : decode cX9_nextOrder 99 = .ok (.iadd, 1) := by decide +kernel
theorem dX9_nextOrder_100 : decode cX9_nextOrder 100 = .ok (.istore 5, 2) := by decide +kernel
theorem dX9_nextOrder_102 : decode cX9_nextOrder 102 = .ok (.iload_n 1, 1) := by decide +kernel
theorem dX9_nextOrder_103 : decode cX9_nextOrder 103 = .ok (.iconst 1, 1) := by decide +kernel
theorem dX9_nextOrder_104 : decode cX9_nextOrder 104 = .ok (.isub, 1) := by decide +kernel
theorem dX9_nextOrder_105 : decode cX9_nextOrder 105 = .ok (.istore 6, 2) := by decide +kernel
theorem dX9_nextOrder_107 : decode cX9_nextOrder 107 = .ok (.iload 5, 2) := by decide +kernel
theorem dX9_nextOrder_109 : decode cX9_nextOrder 109 = .ok (.iload 6, 2) := by decide +kernel
theorem dX9_nextOrder_111 : decode cX9_nextOrder 111 = .ok (.if_icmp .ge 44, 3) := by decide +kernel
theorem dX9_nextOrder_114 : decode cX9_nextOrder 114 = .ok (.aload_n 0, 1) := by decide +kernel
theorem dX9_nextOrder_115 : decode cX9_nextOrder 115 = .ok (.getfield 44, 3) := by decide +kernel
theorem dX9_nextOrder_118 : decode cX9_nextOrder 118 = .ok (.iload 5, 2) := by decide +kernel
theorem dX9_nextOrder_120 : decode cX9_nextOrder 120 = .ok (.iaload, 1) := by decide +kernel
theorem dX9_nextOrder_121 : decode cX9_nextOrder 121 = .ok (.istore 4, 2) := by decide +kernel
theorem dX9_nextOrder_123 : decode cX9_nextOrder 123 = .ok (.aload_n 0, 1) := by decide +kernel
theorem dX9_nextOrder_124 : decode cX9_nextOrder 124 = .ok (.getfield 44, 3) := by decide +kernel
theorem dX9_nextOrder_127 : decode cX9_nextOrder 127 = .ok (.iload 5, 2) := by decide +kernel
theorem dX9_nextOrder_129 : decode cX9_nextOrder 129 = .ok (.aload_n 0, 1) := by decide +kernel
theorem dX9_nextOrder_130 : decode cX9_nextOrder 130 = .ok (.getfield 44, 3) := by decide +kernel
theorem dX9_nextOrder_133 : decode cX9_nextOrder 133 = .ok (.iload 6, 2) := by decide +kernel
theorem dX9_nextOrder_135 : decode cX9_nextOrder 135 = .ok (.iaload, 1) := by decide +kernel
theorem dX9_nextOrder_136 : decode cX9_nextOrder 136 = .ok (.iastore, 1) := by decide +kernel
theorem dX9_nextOrder_137 : decode cX9_nextOrder 137 = .ok (.aload_n 0, 1) := by decide +kernel
theorem dX9_nextOrder_138 : decode cX9_nextOrder 138 = .ok (.getfield 44, 3) := by decide +kernel
theorem dX9_nextOrder_141 : decode cX9_nextOrder 141 = .ok (.iload 6, 2) := by decide +kernel
theorem dX9_nextOrder_143 : decode cX9_nextOrder 143 = .ok (.iload 4, 2) := by decide +kernel
theorem dX9_nextOrder_145 : decode cX9_nextOrder 145 = .ok (.iastore, 1) := by decide +kernel
theorem dX9_nextOrder_146 : decode cX9_nextOrder 146 = .ok (.iinc 5 1, 3) := by decide +kernel
theorem dX9_nextOrder_149 : decode cX9_nextOrder 149 = .ok (.iinc 6 (-1), 3) := by decide +kernel
theorem dX9_nextOrder_152 : decode cX9_nextOrder 152 = .ok (.goto (-45), 3) := by decide +kernel
theorem dX9_nextOrder_155 : decode cX9_nextOrder 155 = .ok (.iconst 1, 1) := by decide +kernel
theorem dX9_nextOrder_156 : decode cX9_nextOrder 156 = .ok (.ireturn, 1) := by decide +kernel
theorem dX9_order_0 : decode cX9_order 0 = .ok (.iload_n 1, 1) := by decide +kernel
theorem dX9_order_1 : decode cX9_order 1 = .ok (.i2l, 1) := by decide +kernel
theorem dX9_order_2 : decode cX9_order 2 = .ok (.ldc2_w 156, 3) := by decide +kernel
theorem dX9_order_5 : decode cX9_order 5 = .ok (.aload_n 0, 1) := by decide +kernel
theorem dX9_order_6 : decode cX9_order 6 = .ok (.getfield 23, 3) := by decide +kernel
theorem dX9_order_9 : decode cX9_order 9 = .ok (.iconst 0, 1) := by decide +kernel
theorem dX9_order_10 : decode cX9_order 10 = .ok (.iaload, 1) := by decide +kernel
theorem dX9_order_11 : decode cX9_order 11 = .ok (.iconst 1, 1) := by decide +kernel
theorem dX9_order_12 : decode cX9_order 12 = .ok (.isub, 1) := by decide +kernel
theorem dX9_order_13 : decode cX9_order 13 = .ok (.i2l, 1) := by decide +kernel
theorem dX9_order_14 : decode cX9_order 14 = .ok (.invokestatic 70, 3) := by decide +kernel
theorem dX9_order_17 : decode cX9_order 17 = .ok (.ifCond .ne 5, 3) := by decide +kernel
theorem dX9_order_20 : decode cX9_order 20 = .ok (.iconst (-1), 1) := by decide +kernel
theorem dX9_order_21 : decode cX9_order 21 = .ok (.ireturn, 1) := by decide +kernel
theorem dX9_order_22 : decode cX9_order 22 = .ok (.iconst 0, 1) := by decide +kernel
theorem dX9_order_23 : decode cX9_order 23 = .ok (.istore_n 2, 1) := by decide +kernel
theorem dX9_order_24 : decode cX9_order 24 = .ok (.iload_n 2, 1) := by decide +kernel
theorem dX9_order_25 : decode cX9_order 25 = .ok (.bipush 7, 2) := by decide +kernel
theorem dX9_order_27 : decode cX9_order 27 = .ok (.if_icmp .ge 16, 3) := by decide +kernel
theorem dX9_order_30 : decode cX9_order 30 = .ok (.aload_n 0, 1) := by decide +kernel
theorem dX9_order_31 : decode cX9_order 31 = .ok (.getfield 44, 3) := by decide +kernel
theorem dX9_order_34 : decode cX9_order 34 = .ok (.iload_n 2, 1) := by decide +kernel
theorem dX9_order_35 : decode cX9_order 35 = .ok (.iload_n 2, 1) := by decide +kernel
theorem dX9_order_36 : decode cX9_order 36 = .ok (.iastore, 1) := by decide +kernel
theorem dX9_order_37 : decode cX9_order 37 = .ok (.iinc 2 1, 3) := by decide +kernel
theorem dX9_order_40 : decode cX9_order 40 = .ok (.goto (-16), 3) := by decide +kernel
theorem dX9_order_43 : decode cX9_order 43 = .ok (.iconst (-1), 1) := by decide +kernel
theorem dX9_order_44 : decode cX9_order 44 = .ok (.istore_n 2, 1) := by decide +kernel
theorem dX9_order_45 : decode cX9_order 45 = .ok (.iconst 1, 1) := by decide +kernel
theorem dX9_order_46 : decode cX9_order 46 = .ok (.istore_n 3, 1) := by decide +kernel
theorem dX9_order_47 : decode cX9_order 47 = .ok (.iload_n 3, 1) := by decide +kernel
theorem dX9_order_48 : decode cX9_order 48 = .ok (.ifCond .eq 121, 3) := by decide +kernel
theorem dX9_order_51 : decode cX9_order 51 = .ok (.iconst 0, 1) := by decide +kernel
theorem dX9_order_52 : decode cX9_order 52 = .ok (.istore 4, 2) := by decide +kernel
theorem dX9_order_54 : decode cX9_order 54 = .ok (.iload 4, 2) := by decide +kernel
theorem dX9_order_56 : decode cX9_order 56 = .ok (.aload_n 0, 1) := by decide +kernel
theorem dX9_order_57 : decode cX9_order 57 = .ok (.getfield 23, 3) := by decide +kernel
theorem dX9_order_60 : decode cX9_order 60 = .ok (.iconst 0, 1) := by decide +kernel
theorem dX9_order_61 : decode cX9_order 61 = .ok (.iaload, 1) := by decide +kernel
theorem dX9_order_62 : decode cX9_order 62 = .ok (.if_icmp .ge 50, 3) := by decide +kernel
theorem dX9_order_65 : decode cX9_order 65 = .ok (.aload_n 0, 1) := by decide +kernel
theorem dX9_order_66 : decode cX9_order 66 = .ok (.getfield 50, 3) := by decide +kernel
theorem dX9_order_69 : decode cX9_order 69 = .ok (.aload_n 0, 1) := by decide +kernel
theorem dX9_order_70 : decode cX9_order 70 = .ok (.getfield 44, 3) := by decide +kernel
theorem dX9_order_73 : decode cX9_order 73 = .ok (.iload 4, 2) := by decide +kernel
theorem dX9_order_75 : decode cX9_order 75 = .ok (.iaload, 1) := by decide +kernel
theorem dX9_order_76 : decode cX9_order 76 = .ok (.aload_n 0, 1) := by decide +kernel
theorem dX9_order_77 : decode cX9_order 77 = .ok (.aload_n 0, 1) := by decide +kernel
theorem dX9_order_78 : decode cX9_order 78 = .ok (.getfield 44, 3) := by decide +kernel
theorem dX9_order_81 : decode cX9_order 81 = .ok (.iload 4, 2) := by decide +kernel
theorem dX9_order_83 : decode cX9_order 83 = .ok (.iaload, 1) := by decide +kernel
theorem dX9_order_84 : decode cX9_order 84 = .ok (.aload_n 0, 1) := by decide +kernel
theorem dX9_order_85 : decode cX9_order 85 = .ok (.getfield 13, 3) := by decide +kernel
theorem dX9_order_88 : decode cX9_order 88 = .ok (.iconst 1, 1) := by decide +kernel
theorem dX9_order_89 : decode cX9_order 89 = .ok (.iaload, 1) := by decide +kernel
theorem dX9_order_90 : decode cX9_order 90 = .ok (.aload_n 0, 1) := by decide +kernel
theorem dX9_order_91 : decode cX9_order 91 = .ok (.getfield 44, 3) := by decide +kernel
theorem dX9_order_94 : decode cX9_order 94 = .ok (.iload 4, 2) := by decide +kernel
theorem dX9_order_96 : decode cX9_order 96 = .ok (.iaload, 1) := by decide +kernel
theorem dX9_order_97 : decode cX9_order 97 = .ok (.iload 4, 2) := by decide +kernel
theorem dX9_order_99 : decode cX9_order 99 = .ok (.invokestatic 137, 3) := by decide +kernel
theorem dX9_order_102 : decode cX9_order 102 = .ok (.invokevirtual 144, 3) := by decide +kernel
theorem dX9_order_105 : decode cX9_order 105 = .ok (.iastore, 1) := by decide +kernel
theorem dX9_order_106 : decode cX9_order 106 = .ok (.iinc 4 1, 3) := by decide +kernel
theorem dX9_order_109 : decode cX9_order 109 = .ok (.goto (-55), 3) := by decide +kernel
theorem dX9_order_112 : decode cX9_order 112 = .ok (.aload_n 0, 1) := by decide +kernel
theorem dX9_order_113 : decode cX9_order 113 = .ok (.invokevirtual 161, 3) := by decide +kernel
theorem dX9_order_116 : decode cX9_order 116 = .ok (.istore 4, 2) := by decide +kernel
theorem dX9_order_118 : decode cX9_order 118 = .ok (.iload_n 2, 1) := by decide +kernel
theorem dX9_order_119 : decode cX9_order 119 = .ok (.ifCond .lt 9, 3) := by decide +kernel
theorem dX9_order_122 : decode cX9_order 122 = .ok (.iload 4, 2) := by decide +kernel
theorem dX9_order_124 : decode cX9_order 124 = .ok (.iload_n 2, 1) := by decide +kernel
theorem dX9_order_125 : decode cX9_order 125 = .ok (.if_icmp .ge 36, 3) := by decide +kernel
theorem dX9_order_128 : decode cX9_order 128 = .ok (.iload 4, 2) := by decide +kernel
theorem dX9_order_130 : decode cX9_order 130 = .ok (.istore_n 2, 1) := by decide +kernel
theorem dX9_order_131 : decode cX9_order 131 = .ok (.iconst 0, 1) := by decide +kernel
theorem dX9_order_132 : decode cX9_order 132 = .ok (.istore 5, 2) := by decide +kernel
theorem dX9_order_134 : decode cX9_order 134 = .ok (.iload 5, 2) := by decide +kernel
theorem dX9_order_136 : decode cX9_order 136 = .ok (.bipush 7, 2) := by decide +kernel
theorem dX9_order_138 : decode cX9_order 138 = .ok (.if_icmp .ge 23, 3) := by decide +kernel
theorem dX9_order_141 : decode cX9_order 141 = .ok (.aload_n 0, 1) := by decide +kernel
theorem dX9_order_142 : decode cX9_order 142 = .ok (.getfield 47, 3) := by decide +kernel
theorem dX9_order_145 : decode cX9_order 145 = .ok (.iload 5, 2) := by decide +kernel
theorem dX9_order_147 : decode cX9_order 147 = .ok (.aload_n 0, 1) := by decide +kernel
theorem dX9_order_148 : decode cX9_order 148 = .ok (.getfield 44, 3) := by decide +kernel
theorem dX9_order_151 : decode cX9_order 151 = .ok (.iload 5, 2) := by decide +kernel
theorem dX9_order_153 : decode cX9_order 153 = .ok (.iaload, 1) := by decide +kernel
theorem dX9_order_154 : decode cX9_order 154 = .ok (.iastore, 1) := by decide +kernel
theorem dX9_order_155 : decode cX9_order 155 = .ok (.iinc 5 1, 3) := by decide +kernel
theorem dX9_order_158 : decode cX9_order 158 = .ok (.goto (-24), 3) := by decide +kernel
theorem dX9_order_161 : decode cX9_order 161 = .ok (.aload_n 0, 1) := by decide +kernel
theorem dX9_order_162 : decode cX9_order 162 = .ok (.invokevirtual 182, 3) := by decide +kernel
theorem dX9_order_165 : decode cX9_order 165 = .ok (.istore_n 3, 1) := by decide +kernel
theorem dX9_order_166 : decode cX9_order 166 = .ok (.goto (-119), 3) := by decide +kernel
theorem dX9_order_169 : decode cX9_order 169 = .ok (.iload_n 1, 1) := by decide +kernel
theorem dX9_order_170 : decode cX9_order 170 = .ok (.ifCond .ge 7, 3) := by decide +kernel
theorem dX9_order_173 : decode cX9_order 173 = .ok (.iload_n 2, 1) := by decide +kernel
theorem dX9_order_174 : decode cX9_order 174 = .ok (.goto 9, 3) := by decide +kernel
theorem dX9_order_177 : decode cX9_order 177 = .ok (.aload_n 0, 1) := by decide +kernel
theorem dX9_order_178 : decode cX9_order 178 = .ok (.getfield 47, 3) := by decide +kernel
theorem dX9_order_181 : decode cX9_order 181 = .ok (.iload_n 1, 1) := by decide +kernel
theorem dX9_order_182 : decode cX9_order 182 = .ok (.iaload, 1) := by decide +kernel
theorem dX9_order_183 : decode cX9_order 183 = .ok (.ireturn, 1) := by decide +kernel
theorem dX9_bribes_0 : decode cX9_bribes 0 = .ok (.iload_n 1, 1) := by decide +kernel
theorem dX9_bribes_1 : decode cX9_bribes 1 = .ok (.i2l, 1) := by decide +kernel
theorem dX9_bribes_2 : decode cX9_bribes 2 = .ok (.lconst 0, 1) := by decide +kernel
theorem dX9_bribes_3 : decode cX9_bribes 3 = .ok (.lconst 1, 1) := by decide +kernel
theorem dX9_bribes_4 : decode cX9_bribes 4 = .ok (.invokestatic 70, 3) := by decide +kernel
theorem dX9_bribes_7 : decode cX9_bribes 7 = .ok (.ifCond .ne 5, 3) := by decide +kernel
theorem dX9_bribes_10 : decode cX9_bribes 10 = .ok (.iconst (-1), 1) := by decide +kernel
theorem dX9_bribes_11 : decode cX9_bribes 11 = .ok (.ireturn, 1) := by decide +kernel
theorem dX9_bribes_12 : decode cX9_bribes 12 = .ok (.iconst (-1), 1) := by decide +kernel
theorem dX9_bribes_13 : decode cX9_bribes 13 = .ok (.istore_n 2, 1) := by decide +kernel
theorem dX9_bribes_14 : decode cX9_bribes 14 = .ok (.bipush (-4), 2) := by decide +kernel
theorem dX9_bribes_16 : decode cX9_bribes 16 = .ok (.istore_n 3, 1) := by decide +kernel
theorem dX9_bribes_17 : decode cX9_bribes 17 = .ok (.iconst 0, 1) := by decide +kernel
theorem dX9_bribes_18 : decode cX9_bribes 18 = .ok (.istore 4, 2) := by decide +kernel
theorem dX9_bribes_20 : decode cX9_bribes 20 = .ok (.iload 4, 2) := by decide +kernel
theorem dX9_bribes_22 : decode cX9_bribes 22 = .ok (.iconst 1, 1) := by decide +kernel
theorem dX9_bribes_23 : decode cX9_bribes 23 = .ok (.aload_n 0, 1) := by decide +kernel
theorem dX9_bribes_24 : decode cX9_bribes 24 = .ok (.getfield 23, 3) := by decide +kernel
theorem dX9_bribes_27 : decode cX9_bribes 27 = .ok (.iconst 0, 1) := by decide +kernel
theorem dX9_bribes_28 : decode cX9_bribes 28 = .ok (.iaload, 1) := by decide +kernel
theorem dX9_bribes_29 : decode cX9_bribes 29 = .ok (.ishl, 1) := by decide +kernel
theorem dX9_bribes_30 : decode cX9_bribes 30 = .ok (.if_icmp .ge 126, 3) := by decide +kernel
theorem dX9_bribes_33 : decode cX9_bribes 33 = .ok (.iconst 0, 1) := by decide +kernel
theorem dX9_bribes_34 : decode cX9_bribes 34 = .ok (.istore 5, 2) := by decide +kernel
theorem dX9_bribes_36 : decode cX9_bribes 36 = .ok (.iconst 0, 1) := by decide +kernel
theorem dX9_bribes_37 : decode cX9_bribes 37 = .ok (.istore 6, 2) := by decide +kernel
theorem dX9_bribes_39 : decode cX9_bribes 39 = .ok (.iload 6, 2) := by decide +kernel
theorem dX9_bribes_41 : decode cX9_bribes 41 = .ok (.aload_n 0, 1) := by decide +kernel
theorem dX9_bribes_42 : decode cX9_bribes 42 = .ok (.getfield 23, 3) := by decide +kernel
theorem dX9_bribes_45 : decode cX9_bribes 45 = .ok (.iconst 0, 1) := by decide +kernel
theorem dX9_bribes_46 : decode cX9_bribes 46 = .ok (.iaload, 1) := by decide +kernel
theorem dX9_bribes_47 : decode cX9_bribes 47 = .ok (.if_icmp .ge 80, 3) := by decide +kernel
theorem dX9_bribes_50 : decode cX9_bribes 50 = .ok (.iload 4, 2) := by decide +kernel
theorem dX9_bribes_52 : decode cX9_bribes 52 = .ok (.iload 6, 2) := by decide +kernel
theorem dX9_bribes_54 : decode cX9_bribes 54 = .ok (.ishr, 1) := by decide +kernel
theorem dX9_bribes_55 : decode cX9_bribes 55 = .ok (.iconst 1, 1) := by decide +kernel
theorem dX9_bribes_56 : decode cX9_bribes 56 = .ok (.iand, 1) := by decide +kernel
theorem dX9_bribes_57 : decode cX9_bribes 57 = .ok (.iconst 1, 1) := by decide +kernel
theorem dX9_bribes_58 : decode cX9_bribes 58 = .ok (.if_icmp .ne 7, 3) := by decide +kernel
theorem dX9_bribes_61 : decode cX9_bribes 61 = .ok (.iconst 1, 1) := by decide +kernel
theorem dX9_bribes_62 : decode cX9_bribes 62 = .ok (.goto 4, 3) := by decide +kernel
theorem dX9_bribes_65 : decode cX9_bribes 65 = .ok (.iconst 0, 1) := by decide +kernel
theorem dX9_bribes_66 : decode cX9_bribes 66 = .ok (.istore 7, 2) := by decide +kernel
theorem dX9_bribes_68 : decode cX9_bribes 68 = .ok (.iload 5, 2) := by decide +kernel
theorem dX9_bribes_70 : decode cX9_bribes 70 = .ok (.iload 7, 2) := by decide +kernel
theorem dX9_bribes_72 : decode cX9_bribes 72 = .ok (.ifCond .eq 17, 3) := by decide +kernel
theorem dX9_bribes_75 : decode cX9_bribes 75 = .ok (.aload_n 0, 1) := by decide +kernel
theorem dX9_bribes_76 : decode cX9_bribes 76 = .ok (.getfield 26, 3) := by decide +kernel
theorem dX9_bribes_79 : decode cX9_bribes 79 = .ok (.iconst 3, 1) := by decide +kernel
theorem dX9_bribes_80 : decode cX9_bribes 80 = .ok (.iload 6, 2) := by decide +kernel
theorem dX9_bribes_82 : decode cX9_bribes 82 = .ok (.imul, 1) := by decide +kernel
theorem dX9_bribes_83 : decode cX9_bribes 83 = .ok (.iconst 2, 1) := by decide +kernel
theorem dX9_bribes_84 : decode cX9_bribes 84 = .ok (.iadd, 1) := by decide +kernel
theorem dX9_bribes_85 : decode cX9_bribes 85 = .ok (.iaload, 1) := by decide +kernel
theorem dX9_bribes_86 : decode cX9_bribes 86 = .ok (.goto 4, 3) := by decide +kernel
theorem dX9_bribes_89 : decode cX9_bribes 89 = .ok (.iconst 0, 1) := by decide +kernel
theorem dX9_bribes_90 : decode cX9_bribes 90 = .ok (.iadd, 1) := by decide +kernel
theorem dX9_bribes_91 : decode cX9_bribes 91 = .ok (.istore 5, 2) := by decide +kernel
theorem dX9_bribes_93 : decode cX9_bribes 93 = .ok (.aload_n 0, 1) := by decide +kernel
theorem dX9_bribes_94 : decode cX9_bribes 94 = .ok (.getfield 50, 3) := by decide +kernel
theorem dX9_bribes_97 : decode cX9_bribes 97 = .ok (.iload 6, 2) := by decide +kernel
theorem dX9_bribes_99 : decode cX9_bribes 99 = .ok (.aload_n 0, 1) := by decide +kernel
theorem dX9_bribes_100 : decode cX9_bribes 100 = .ok (.iload 6, 2) := by decide +kernel
theorem dX9_bribes_102 : decode cX9_bribes 102 = .ok (.iload 7, 2) := by decide +kernel
theorem dX9_bribes_104 : decode cX9_bribes 104 = .ok (.ifCond .eq 7, 3) := by decide +kernel
theorem dX9_bribes_107 : decode cX9_bribes 107 = .ok (.iconst 0, 1) := by decide +kernel
theorem dX9_bribes_108 : decode cX9_bribes 108 = .ok (.goto 9, 3) := by decide +kernel
theorem dX9_bribes_111 : decode cX9_bribes 111 = .ok (.aload_n 0, 1) := by decide +kernel
theorem dX9_bribes_112 : decode cX9_bribes 112 = .ok (.iload 6, 2) := by decide +kernel
theorem dX9_bribes_114 : decode cX9_bribes 114 = .ok (.invokevirtual 141, 3) := by decide +kernel
theorem dX9_bribes_117 : decode cX9_bribes 117 = .ok (.invokevirtual 144, 3) := by decide +kernel
theorem dX9_bribes_120 : decode cX9_bribes 120 = .ok (.iastore, 1) := by decide +kernel
theorem dX9_bribes_121 : decode cX9_bribes 121 = .ok (.iinc 6 1, 3) := by decide +kernel
theorem dX9_bribes_124 : decode cX9_bribes 124 = .ok (.goto (-85), 3) := by decide +kernel
theorem dX9_bribes_127 : decode cX9_bribes 127 = .ok (.aload_n 0, 1) := by decide +kernel
theorem dX9_bribes_128 : decode cX9_bribes 128 = .ok (.invokevirtual 164, 3) := by decide +kernel
theorem dX9_bribes_131 : decode cX9_bribes 131 = .ok (.ifCond .eq 19, 3) := by decide +kernel
theorem dX9_bribes_134 : decode cX9_bribes 134 = .ok (.iload_n 2, 1) := by decide +kernel
theorem dX9_bribes_135 : decode cX9_bribes 135 = .ok (.ifCond .lt 9, 3) := by decide +kernel
theorem dX9_bribes_138 : decode cX9_bribes 138 = .ok (.iload 5, 2) := by decide +kernel
theorem dX9_bribes_140 : decode cX9_bribes 140 = .ok (.iload_n 2, 1) := by decide +kernel
theorem dX9_bribes_141 : decode cX9_bribes 141 = .ok (.if_icmp .ge 9, 3) := by decide +kernel
theorem dX9_bribes_144 : decode cX9_bribes 144 = .ok (.iload 5, 2) := by decide +kernel
theorem dX9_bribes_146 : decode cX9_bribes 146 = .ok (.istore_n 2, 1) := by decide +kernel
theorem dX9_bribes_147 : decode cX9_bribes 147 = .ok (.iload 4, 2) := by decide +kernel
theorem dX9_bribes_149 : decode cX9_bribes 149 = .ok (.istore_n 3, 1) := by decide +kernel
theorem dX9_bribes_150 : decode cX9_bribes 150 = .ok (.iinc 4 1, 3) := by decide +kernel
theorem dX9_bribes_153 : decode cX9_bribes 153 = .ok (.goto (-133), 3) := by decide +kernel
theorem dX9_bribes_156 : decode cX9_bribes 156 = .ok (.iload_n 3, 1) := by decide +kernel
theorem dX9_bribes_157 : decode cX9_bribes 157 = .ok (.ifCond .lt 8, 3) := by decide +kernel
theorem dX9_bribes_160 : decode cX9_bribes 160 = .ok (.iload_n 1, 1) := by decide +kernel
theorem dX9_bribes_161 : decode cX9_bribes 161 = .ok (.iconst 1, 1) := by decide +kernel
theorem dX9_bribes_162 : decode cX9_bribes 162 = .ok (.if_icmp .ne 7, 3) := by decide +kernel
theorem dX9_bribes_165 : decode cX9_bribes 165 = .ok (.iload_n 3, 1) := by decide +kernel
theorem dX9_bribes_166 : decode cX9_bribes 166 = .ok (.goto 4, 3) := by decide +kernel
theorem dX9_bribes_169 : decode cX9_bribes 169 = .ok (.iload_n 2, 1) := by decide +kernel
theorem dX9_bribes_170 : decode cX9_bribes 170 = .ok (.ireturn, 1) := by decide +kernel
theorem dX9_closed_0 : decode cX9_closed 0 = .ok (.iload_n 1, 1) := by decide +kernel
theorem dX9_closed_1 : decode cX9_closed 1 = .ok (.i2l, 1) := by decide +kernel
theorem dX9_closed_2 : decode cX9_closed 2 = .ok (.ldc2_w 156, 3) := by decide +kernel
theorem dX9_closed_5 : decode cX9_closed 5 = .ok (.aload_n 0, 1) := by decide +kernel
theorem dX9_closed_6 : decode cX9_closed 6 = .ok (.getfield 23, 3) := by decide +kernel
theorem dX9_closed_9 : decode cX9_closed 9 = .ok (.iconst 0, 1) := by decide +kernel
theorem dX9_closed_10 : decode cX9_closed 10 = .ok (.iaload, 1) := by decide +kernel
theorem dX9_closed_11 : decode cX9_closed 11 = .ok (.iconst 1, 1) := by decide +kernel
theorem dX9_closed_12 : decode cX9_closed 12 = .ok (.isub, 1) := by decide +kernel
theorem dX9_closed_13 : decode cX9_closed 13 = .ok (.i2l, 1) := by decide +kernel
theorem dX9_closed_14 : decode cX9_closed 14 = .ok (.invokestatic 70, 3) := by decide +kernel
theorem dX9_closed_17 : decode cX9_closed 17 = .ok (.ifCond .ne 5, 3) := by decide +kernel
theorem dX9_closed_20 : decode cX9_closed 20 = .ok (.iconst (-1), 1) := by decide +kernel
theorem dX9_closed_21 : decode cX9_closed 21 = .ok (.ireturn, 1) := by decide +kernel
theorem dX9_closed_22 : decode cX9_closed 22 = .ok (.aload_n 0, 1) := by decide +kernel
theorem dX9_closed_23 : decode cX9_closed 23 = .ok (.invokevirtual 158, 3) := by decide +kernel
theorem dX9_closed_26 : decode cX9_closed 26 = .ok (.iconst 0, 1) := by decide +kernel
theorem dX9_closed_27 : decode cX9_closed 27 = .ok (.istore_n 2, 1) := by decide +kernel
theorem dX9_closed_28 : decode cX9_closed 28 = .ok (.iload_n 2, 1) := by decide +kernel
theorem dX9_closed_29 : decode cX9_closed 29 = .ok (.aload_n 0, 1) := by decide +kernel
theorem dX9_closed_30 : decode cX9_closed 30 = .ok (.getfield 23, 3) := by decide +kernel
theorem dX9_closed_33 : decode cX9_closed 33 = .ok (.iconst 0, 1) := by decide +kernel
theorem dX9_closed_34 : decode cX9_closed 34 = .ok (.iaload, 1) := by decide +kernel
theorem dX9_closed_35 : decode cX9_closed 35 = .ok (.if_icmp .ge 21, 3) := by decide +kernel
theorem dX9_closed_38 : decode cX9_closed 38 = .ok (.aload_n 0, 1) := by decide +kernel
theorem dX9_closed_39 : decode cX9_closed 39 = .ok (.getfield 56, 3) := by decide +kernel
theorem dX9_closed_42 : decode cX9_closed 42 = .ok (.iload_n 2, 1) := by decide +kernel
theorem dX9_closed_43 : decode cX9_closed 43 = .ok (.aload_n 0, 1) := by decide +kernel
theorem dX9_closed_44 : decode cX9_closed 44 = .ok (.getfield 50, 3) := by decide +kernel
theorem dX9_closed_47 : decode cX9_closed 47 = .ok (.iload_n 2, 1) := by decide +kernel
theorem dX9_closed_48 : decode cX9_closed 48 = .ok (.iaload, 1) := by decide +kernel
theorem dX9_closed_49 : decode cX9_closed 49 = .ok (.iastore, 1) := by decide +kernel
theorem dX9_closed_50 : decode cX9_closed 50 = .ok (.iinc 2 1, 3) := by decide +kernel
theorem dX9_closed_53 : decode cX9_closed 53 = .ok (.goto (-25), 3) := by decide +kernel
theorem dX9_closed_56 : decode cX9_closed 56 = .ok (.iconst 0, 1) := by decide +kernel
theorem dX9_closed_57 : decode cX9_closed 57 = .ok (.istore_n 2, 1) := by decide +kernel
theorem dX9_closed_58 : decode cX9_closed 58 = .ok (.iload_n 2, 1) := by decide +kernel
theorem dX9_closed_59 : decode cX9_closed 59 = .ok (.bipush 7, 2) := by decide +kernel
theorem dX9_closed_61 : decode cX9_closed 61 = .ok (.if_icmp .ge 103, 3) := by decide +kernel
theorem dX9_closed_64 : decode cX9_closed 64 = .ok (.iconst 0, 1) := by decide +kernel
theorem dX9_closed_65 : decode cX9_closed 65 = .ok (.istore_n 3, 1) := by decide +kernel
theorem dX9_closed_66 : decode cX9_closed 66 = .ok (.iload_n 3, 1) := by decide +kernel
theorem dX9_closed_67 : decode cX9_closed 67 = .ok (.aload_n 0, 1) := by decide +kernel
theorem dX9_closed_68 : decode cX9_closed 68 = .ok (.getfield 29, 3) := by decide +kernel
theorem dX9_closed_71 : decode cX9_closed 71 = .ok (.iconst 0, 1) := by decide +kernel
theorem dX9_closed_72 : decode cX9_closed 72 = .ok (.iaload, 1) := by decide +kernel
theorem dX9_closed_73 : decode cX9_closed 73 = .ok (.if_icmp .ge 85, 3) := by decide +kernel
theorem dX9_closed_76 : decode cX9_closed 76 = .ok (.aload_n 0, 1) := by decide +kernel
theorem dX9_closed_77 : decode cX9_closed 77 = .ok (.getfield 32, 3) := by decide +kernel
theorem dX9_closed_80 : decode cX9_closed 80 = .ok (.iconst 2, 1) := by decide +kernel
theorem dX9_closed_81 : decode cX9_closed 81 = .ok (.iload_n 3, 1) := by decide +kernel
theorem dX9_closed_82 : decode cX9_closed 82 = .ok (.imul, 1) := by decide +kernel
theorem dX9_closed_83 : decode cX9_closed 83 = .ok (.iaload, 1) := by decide +kernel
theorem dX9_closed_84 : decode cX9_closed 84 = .ok (.istore 4, 2) := by decide +kernel
theorem dX9_closed_86 : decode cX9_closed 86 = .ok (.aload_n 0, 1) := by decide +kernel
theorem dX9_closed_87 : decode cX9_closed 87 = .ok (.getfield 32, 3) := by decide +kernel
theorem dX9_closed_90 : decode cX9_closed 90 = .ok (.iconst 2, 1) := by decide +kernel
theorem dX9_closed_91 : decode cX9_closed 91 = .ok (.iload_n 3, 1) := by decide +kernel
theorem dX9_closed_92 : decode cX9_closed 92 = .ok (.imul, 1) := by decide +kernel
theorem dX9_closed_93 : decode cX9_closed 93 = .ok (.iconst 1, 1) := by decide +kernel
theorem dX9_closed_94 : decode cX9_closed 94 = .ok (.iadd, 1) := by decide +kernel
theorem dX9_closed_95 : decode cX9_closed 95 = .ok (.iaload, 1) := by decide +kernel
theorem dX9_closed_96 : decode cX9_closed 96 = .ok (.istore 5, 2) := by decide +kernel
theorem dX9_closed_98 : decode cX9_closed 98 = .ok (.aload_n 0, 1) := by decide +kernel
theorem dX9_closed_99 : decode cX9_closed 99 = .ok (.getfield 56, 3) := by decide +kernel
theorem dX9_closed_102 : decode cX9_closed 102 = .ok (.iload 4, 2) := by decide +kernel
theorem dX9_closed_104 : decode cX9_closed 104 = .ok (.iaload, 1) := by decide +kernel
theorem dX9_closed_105 : decode cX9_closed 105 = .ok (.aload_n 0, 1) := by decide +kernel
theorem dX9_closed_106 : decode cX9_closed 106 = .ok (.getfield 56, 3) := by decide +kernel
theorem dX9_closed_109 : decode cX9_closed 109 = .ok (.iload 5, 2) := by decide +kernel
theorem dX9_closed_111 : decode cX9_closed 111 = .ok (.iaload, 1) := by decide +kernel
theorem dX9_closed_112 : decode cX9_closed 112 = .ok (.if_icmp .ge 13, 3) := by decide +kernel
theorem dX9_closed_115 : decode cX9_closed 115 = .ok (.aload_n 0, 1) := by decide +kernel
theorem dX9_closed_116 : decode cX9_closed 116 = .ok (.getfield 56, 3) := by decide +kernel
theorem dX9_closed_119 : decode cX9_closed 119 = .ok (.iload 4, 2) := by decide +kernel
theorem dX9_closed_121 : decode cX9_closed 121 = .ok (.iaload, 1) := by decide +kernel
theorem dX9_closed_122 : decode cX9_closed 122 = .ok (.goto 10, 3) := by decide +kernel
theorem dX9_closed_125 : decode cX9_closed 125 = .ok (.aload_n 0, 1) := by decide +kernel
theorem dX9_closed_126 : decode cX9_closed 126 = .ok (.getfield 56, 3) := by decide +kernel
theorem dX9_closed_129 : decode cX9_closed 129 = .ok (.iload 5, 2) := by decide +kernel
theorem dX9_closed_131 : decode cX9_closed 131 = .ok (.iaload, 1) := by decide +kernel
theorem dX9_closed_132 : decode cX9_closed 132 = .ok (.istore 6, 2) := by decide +kernel
theorem dX9_closed_134 : decode cX9_closed 134 = .ok (.aload_n 0, 1) := by decide +kernel
theorem dX9_closed_135 : decode cX9_closed 135 = .ok (.getfield 56, 3) := by decide +kernel
theorem dX9_closed_138 : decode cX9_closed 138 = .ok (.iload 4, 2) := by decide +kernel
theorem dX9_closed_140 : decode cX9_closed 140 = .ok (.iload 6, 2) := by decide +kernel
theorem dX9_closed_142 : decode cX9_closed 142 = .ok (.iastore, 1) := by decide +kernel
theorem dX9_closed_143 : decode cX9_closed 143 = .ok (.aload_n 0, 1) := by decide +kernel
theorem dX9_closed_144 : decode cX9_closed 144 = .ok (.getfield 56, 3) := by decide +kernel
theorem dX9_closed_147 : decode cX9_closed 147 = .ok (.iload 5, 2) := by decide +kernel
theorem dX9_closed_149 : decode cX9_closed 149 = .ok (.iload 6, 2) := by decide +kernel
theorem dX9_closed_151 : decode cX9_closed 151 = .ok (.iastore, 1) := by decide +kernel
theorem dX9_closed_152 : decode cX9_closed 152 = .ok (.iinc 3 1, 3) := by decide +kernel
theorem dX9_closed_155 : decode cX9_closed 155 = .ok (.goto (-89), 3) := by decide +kernel
theorem dX9_closed_158 : decode cX9_closed 158 = .ok (.iinc 2 1, 3) := by decide +kernel
theorem dX9_closed_161 : decode cX9_closed 161 = .ok (.goto (-103), 3) := by decide +kernel
theorem dX9_closed_164 : decode cX9_closed 164 = .ok (.iconst 0, 1) := by decide +kernel
theorem dX9_closed_165 : decode cX9_closed 165 = .ok (.istore_n 2, 1) := by decide +kernel
theorem dX9_closed_166 : decode cX9_closed 166 = .ok (.iconst 0, 1) := by decide +kernel
theorem dX9_closed_167 : decode cX9_closed 167 = .ok (.istore_n 3, 1) := by decide +kernel
theorem dX9_closed_168 : decode cX9_closed 168 = .ok (.iload_n 3, 1) := by decide +kernel
theorem dX9_closed_169 : decode cX9_closed 169 = .ok (.aload_n 0, 1) := by decide +kernel
theorem dX9_closed_170 : decode cX9_closed 170 = .ok (.getfield 23, 3) := by decide +kernel
theorem dX9_closed_173 : decode cX9_closed 173 = .ok (.iconst 0, 1) := by decide +kernel
theorem dX9_closed_174 : decode cX9_closed 174 = .ok (.iaload, 1) := by decide +kernel
theorem dX9_closed_175 : decode cX9_closed 175 = .ok (.if_icmp .ge 25, 3) := by decide +kernel
theorem dX9_closed_178 : decode cX9_closed 178 = .ok (.iload_n 2, 1) := by decide +kernel
theorem dX9_closed_179 : decode cX9_closed 179 = .ok (.aload_n 0, 1) := by decide +kernel
theorem dX9_closed_180 : decode cX9_closed 180 = .ok (.getfield 50, 3) := by decide +kernel
theorem dX9_closed_183 : decode cX9_closed 183 = .ok (.iload_n 3, 1) := by decide +kernel
theorem dX9_closed_184 : decode cX9_closed 184 = .ok (.iaload, 1) := by decide +kernel
theorem dX9_closed_185 : decode cX9_closed 185 = .ok (.aload_n 0, 1) := by decide +kernel
theorem dX9_closed_186 : decode cX9_closed 186 = .ok (.getfield 56, 3) := by decide +kernel
theorem dX9_closed_189 : decode cX9_closed 189 = .ok (.iload_n 3, 1) := by decide +kernel
theorem dX9_closed_190 : decode cX9_closed 190 = .ok (.iaload, 1) := by decide +kernel
theorem dX9_closed_191 : decode cX9_closed 191 = .ok (.isub, 1) := by decide +kernel
theorem dX9_closed_192 : decode cX9_closed 192 = .ok (.iadd, 1) := by decide +kernel
theorem dX9_closed_193 : decode cX9_closed 193 = .ok (.istore_n 2, 1) := by decide +kernel
theorem dX9_closed_194 : decode cX9_closed 194 = .ok (.iinc 3 1, 3) := by decide +kernel
theorem dX9_closed_197 : decode cX9_closed 197 = .ok (.goto (-29), 3) := by decide +kernel
theorem dX9_closed_200 : decode cX9_closed 200 = .ok (.iload_n 1, 1) := by decide +kernel
theorem dX9_closed_201 : decode cX9_closed 201 = .ok (.ifCond .ge 7, 3) := by decide +kernel
theorem dX9_closed_204 : decode cX9_closed 204 = .ok (.iload_n 2, 1) := by decide +kernel
theorem dX9_closed_205 : decode cX9_closed 205 = .ok (.goto 16, 3) := by decide +kernel
theorem dX9_closed_208 : decode cX9_closed 208 = .ok (.aload_n 0, 1) := by decide +kernel
theorem dX9_closed_209 : decode cX9_closed 209 = .ok (.getfield 50, 3) := by decide +kernel
theorem dX9_closed_212 : decode cX9_closed 212 = .ok (.iload_n 1, 1) := by decide +kernel
theorem dX9_closed_213 : decode cX9_closed 213 = .ok (.iaload, 1) := by decide +kernel
theorem dX9_closed_214 : decode cX9_closed 214 = .ok (.aload_n 0, 1) := by decide +kernel
theorem dX9_closed_215 : decode cX9_closed 215 = .ok (.getfield 56, 3) := by decide +kernel
theorem dX9_closed_218 : decode cX9_closed 218 = .ok (.iload_n 1, 1) := by decide +kernel
theorem dX9_closed_219 : decode cX9_closed 219 = .ok (.iaload, 1) := by decide +kernel
theorem dX9_closed_220 : decode cX9_closed 220 = .ok (.isub, 1) := by decide +kernel
theorem dX9_closed_221 : decode cX9_closed 221 = .ok (.ireturn, 1) := by decide +kernel
theorem dX9_seen_0 : decode cX9_seen 0 = .ok (.aload_n 0, 1) := by decide +kernel
theorem dX9_seen_1 : decode cX9_seen 1 = .ok (.iload_n 1, 1) := by decide +kernel
theorem dX9_seen_2 : decode cX9_seen 2 = .ok (.invokevirtual 185, 3) := by decide +kernel
theorem dX9_seen_5 : decode cX9_seen 5 = .ok (.ifCond .eq 29, 3) := by decide +kernel
theorem dX9_seen_8 : decode cX9_seen 8 = .ok (.iload_n 2, 1) := by decide +kernel
theorem dX9_seen_9 : decode cX9_seen 9 = .ok (.i2l, 1) := by decide +kernel
theorem dX9_seen_10 : decode cX9_seen 10 = .ok (.ldc2_w 103, 3) := by decide +kernel
theorem dX9_seen_13 : decode cX9_seen 13 = .ok (.ldc2_w 105, 3) := by decide +kernel
theorem dX9_seen_16 : decode cX9_seen 16 = .ok (.invokestatic 70, 3) := by decide +kernel
theorem dX9_seen_19 : decode cX9_seen 19 = .ok (.ifCond .eq 15, 3) := by decide +kernel
theorem dX9_seen_22 : decode cX9_seen 22 = .ok (.iload_n 3, 1) := by decide +kernel
theorem dX9_seen_23 : decode cX9_seen 23 = .ok (.i2l, 1) := by decide +kernel
theorem dX9_seen_24 : decode cX9_seen 24 = .ok (.lconst 1, 1) := by decide +kernel
theorem dX9_seen_25 : decode cX9_seen 25 = .ok (.ldc2_w 180, 3) := by decide +kernel
theorem dX9_seen_28 : decode cX9_seen 28 = .ok (.invokestatic 70, 3) := by decide +kernel
theorem dX9_seen_31 : decode cX9_seen 31 = .ok (.ifCond .ne 5, 3) := by decide +kernel
theorem dX9_seen_34 : decode cX9_seen 34 = .ok (.iconst (-1), 1) := by decide +kernel
theorem dX9_seen_35 : decode cX9_seen 35 = .ok (.ireturn, 1) := by decide +kernel
theorem dX9_seen_36 : decode cX9_seen 36 = .ok (.aload_n 0, 1) := by decide +kernel
theorem dX9_seen_37 : decode cX9_seen 37 = .ok (.getfield 107, 3) := by decide +kernel
theorem dX9_seen_40 : decode cX9_seen 40 = .ok (.bipush 10, 2) := by decide +kernel
theorem dX9_seen_42 : decode cX9_seen 42 = .ok (.if_icmp .ne 6, 3) := by decide +kernel
theorem dX9_seen_45 : decode cX9_seen 45 = .ok (.bipush (-3), 2) := by decide +kernel
theorem dX9_seen_47 : decode cX9_seen 47 = .ok (.ireturn, 1) := by decide +kernel
theorem dX9_seen_48 : decode cX9_seen 48 = .ok (.aload_n 0, 1) := by decide +kernel
theorem dX9_seen_49 : decode cX9_seen 49 = .ok (.getfield 38, 3) := by decide +kernel
theorem dX9_seen_52 : decode cX9_seen 52 = .ok (.iconst 3, 1) := by decide +kernel
theorem dX9_seen_53 : decode cX9_seen 53 = .ok (.aload_n 0, 1) := by decide +kernel
theorem dX9_seen_54 : decode cX9_seen 54 = .ok (.getfield 107, 3) := by decide +kernel
theorem dX9_seen_57 : decode cX9_seen 57 = .ok (.imul, 1) := by decide +kernel
theorem dX9_seen_58 : decode cX9_seen 58 = .ok (.iload_n 1, 1) := by decide +kernel
theorem dX9_seen_59 : decode cX9_seen 59 = .ok (.iastore, 1) := by decide +kernel
theorem dX9_seen_60 : decode cX9_seen 60 = .ok (.aload_n 0, 1) := by decide +kernel
theorem dX9_seen_61 : decode cX9_seen 61 = .ok (.getfield 38, 3) := by decide +kernel
theorem dX9_seen_64 : decode cX9_seen 64 = .ok (.iconst 3, 1) := by decide +kernel
theorem dX9_seen_65 : decode cX9_seen 65 = .ok (.aload_n 0, 1) := by decide +kernel
theorem dX9_seen_66 : decode cX9_seen 66 = .ok (.getfield 107, 3) := by decide +kernel
theorem dX9_seen_69 : decode cX9_seen 69 = .ok (.imul, 1) := by decide +kernel
theorem dX9_seen_70 : decode cX9_seen 70 = .ok (.iconst 1, 1) := by decide +kernel
theorem dX9_seen_71 : decode cX9_seen 71 = .ok (.iadd, 1) := by decide +kernel
theorem dX9_seen_72 : decode cX9_seen 72 = .ok (.iload_n 2, 1) := by decide +kernel
theorem dX9_seen_73 : decode cX9_seen 73 = .ok (.iastore, 1) := by decide +kernel
theorem dX9_seen_74 : decode cX9_seen 74 = .ok (.aload_n 0, 1) := by decide +kernel
theorem dX9_seen_75 : decode cX9_seen 75 = .ok (.getfield 38, 3) := by decide +kernel
theorem dX9_seen_78 : decode cX9_seen 78 = .ok (.iconst 3, 1) := by decide +kernel
theorem dX9_seen_79 : decode cX9_seen 79 = .ok (.aload_n 0, 1) := by decide +kernel
theorem dX9_seen_80 : decode cX9_seen 80 = .ok (.getfield 107, 3) := by decide +kernel
theorem dX9_seen_83 : decode cX9_seen 83 = .ok (.imul, 1) := by decide +kernel
theorem dX9_seen_84 : decode cX9_seen 84 = .ok (.iconst 2, 1) := by decide +kernel
theorem dX9_seen_85 : decode cX9_seen 85 = .ok (.iadd, 1) := by decide +kernel
theorem dX9_seen_86 : decode cX9_seen 86 = .ok (.iload_n 3, 1) := by decide +kernel
theorem dX9_seen_87 : decode cX9_seen 87 = .ok (.iastore, 1) := by decide +kernel
theorem dX9_seen_88 : decode cX9_seen 88 = .ok (.aload_n 0, 1) := by decide +kernel
theorem dX9_seen_89 : decode cX9_seen 89 = .ok (.dup, 1) := by decide +kernel
theorem dX9_seen_90 : decode cX9_seen 90 = .ok (.getfield 107, 3) := by decide +kernel
theorem dX9_seen_93 : decode cX9_seen 93 = .ok (.iconst 1, 1) := by decide +kernel
theorem dX9_seen_94 : decode cX9_seen 94 = .ok (.iadd, 1) := by decide +kernel
theorem dX9_seen_95 : decode cX9_seen 95 = .ok (.putfield 107, 3) := by decide +kernel
theorem dX9_seen_98 : decode cX9_seen 98 = .ok (.aload_n 0, 1) := by decide +kernel
theorem dX9_seen_99 : decode cX9_seen 99 = .ok (.getfield 107, 3) := by decide +kernel
theorem dX9_seen_102 : decode cX9_seen 102 = .ok (.ireturn, 1) := by decide +kernel
theorem dX9_forget_0 : decode cX9_forget 0 = .ok (.aload_n 0, 1) := by decide +kernel
theorem dX9_forget_1 : decode cX9_forget 1 = .ok (.getfield 107, 3) := by decide +kernel
theorem dX9_forget_4 : decode cX9_forget 4 = .ok (.istore_n 1, 1) := by decide +kernel
theorem dX9_forget_5 : decode cX9_forget 5 = .ok (.aload_n 0, 1) := by decide +kernel
theorem dX9_forget_6 : decode cX9_forget 6 = .ok (.iconst 0, 1) := by decide +kernel
theorem dX9_forget_7 : decode cX9_forget 7 = .ok (.putfield 107, 3) := by decide +kernel
theorem dX9_forget_10 : decode cX9_forget 10 = .ok (.iload_n 1, 1) := by decide +kernel
theorem dX9_forget_11 : decode cX9_forget 11 = .ok (.ireturn, 1) := by decide +kernel
theorem dX9_inch_0 : decode cX9_inch 0 = .ok (.aload_n 0, 1) := by decide +kernel
theorem dX9_inch_1 : decode cX9_inch 1 = .ok (.iload_n 1, 1) := by decide +kernel
theorem dX9_inch_2 : decode cX9_inch 2 = .ok (.invokevirtual 185, 3) := by decide +kernel
theorem dX9_inch_5 : decode cX9_inch 5 = .ok (.ifCond .eq 13, 3) := by decide +kernel
theorem dX9_inch_8 : decode cX9_inch 8 = .ok (.iload_n 2, 1) := by decide +kernel
theorem dX9_inch_9 : decode cX9_inch 9 = .ok (.i2l, 1) := by decide +kernel
theorem dX9_inch_10 : decode cX9_inch 10 = .ok (.lconst 0, 1) := by decide +kernel
theorem dX9_inch_11 : decode cX9_inch 11 = .ok (.lconst 1, 1) := by decide +kernel
theorem dX9_inch_12 : decode cX9_inch 12 = .ok (.invokestatic 70, 3) := by decide +kernel
theorem dX9_inch_15 : decode cX9_inch 15 = .ok (.ifCond .ne 5, 3) := by decide +kernel
theorem dX9_inch_18 : decode cX9_inch 18 = .ok (.iconst (-1), 1) := by decide +kernel
theorem dX9_inch_19 : decode cX9_inch 19 = .ok (.ireturn, 1) := by decide +kernel
theorem dX9_inch_20 : decode cX9_inch 20 = .ok (.iconst 0, 1) := by decide +kernel
theorem dX9_inch_21 : decode cX9_inch 21 = .ok (.istore_n 3, 1) := by decide +kernel
theorem dX9_inch_22 : decode cX9_inch 22 = .ok (.bipush (-4), 2) := by decide +kernel
theorem dX9_inch_24 : decode cX9_inch 24 = .ok (.istore 4, 2) := by decide +kernel
theorem dX9_inch_26 : decode cX9_inch 26 = .ok (.bipush 120, 2) := by decide +kernel
theorem dX9_inch_28 : decode cX9_inch 28 = .ok (.istore 5, 2) := by decide +kernel
theorem dX9_inch_30 : decode cX9_inch 30 = .ok (.iload 5, 2) := by decide +kernel
theorem dX9_inch_32 : decode cX9_inch 32 = .ok (.bipush 80, 2) := by decide +kernel
theorem dX9_inch_34 : decode cX9_inch 34 = .ok (.if_icmp .lt 113, 3) := by decide +kernel
theorem dX9_inch_37 : decode cX9_inch 37 = .ok (.iconst 1, 1) := by decide +kernel
theorem dX9_inch_38 : decode cX9_inch 38 = .ok (.istore 6, 2) := by decide +kernel
theorem dX9_inch_40 : decode cX9_inch 40 = .ok (.iconst 0, 1) := by decide +kernel
theorem dX9_inch_41 : decode cX9_inch 41 = .ok (.istore 7, 2) := by decide +kernel
theorem dX9_inch_43 : decode cX9_inch 43 = .ok (.iload 7, 2) := by decide +kernel
theorem dX9_inch_45 : decode cX9_inch 45 = .ok (.aload_n 0, 1) := by decide +kernel
theorem dX9_inch_46 : decode cX9_inch 46 = .ok (.getfield 107, 3) := by decide +kernel
theorem dX9_inch_49 : decode cX9_inch 49 = .ok (.if_icmp .ge 65, 3) := by decide +kernel
theorem dX9_inch_52 : decode cX9_inch 52 = .ok (.iload 6, 2) := by decide +kernel
theorem dX9_inch_54 : decode cX9_inch 54 = .ok (.ifCond .eq 51, 3) := by decide +kernel
theorem dX9_inch_57 : decode cX9_inch 57 = .ok (.aload_n 0, 1) := by decide +kernel
theorem dX9_inch_58 : decode cX9_inch 58 = .ok (.getfield 38, 3) := by decide +kernel
theorem dX9_inch_61 : decode cX9_inch 61 = .ok (.iconst 3, 1) := by decide +kernel
theorem dX9_inch_62 : decode cX9_inch 62 = .ok (.iload 7, 2) := by decide +kernel
theorem dX9_inch_64 : decode cX9_inch 64 = .ok (.imul, 1) := by decide +kernel
theorem dX9_inch_65 : decode cX9_inch 65 = .ok (.iaload, 1) := by decide +kernel
theorem dX9_inch_66 : decode cX9_inch 66 = .ok (.iload_n 1, 1) := by decide +kernel
theorem dX9_inch_67 : decode cX9_inch 67 = .ok (.if_icmp .ne 34, 3) := by decide +kernel
theorem dX9_inch_70 : decode cX9_inch 70 = .ok (.aload_n 0, 1) := by decide +kernel
theorem dX9_inch_71 : decode cX9_inch 71 = .ok (.getfield 38, 3) := by decide +kernel
theorem dX9_inch_74 : decode cX9_inch 74 = .ok (.iconst 3, 1) := by decide +kernel
theorem dX9_inch_75 : decode cX9_inch 75 = .ok (.iload 7, 2) := by decide +kernel
theorem dX9_inch_77 : decode cX9_inch 77 = .ok (.imul, 1) := by decide +kernel
theorem dX9_inch_78 : decode cX9_inch 78 = .ok (.iconst 1, 1) := by decide +kernel
theorem dX9_inch_79 : decode cX9_inch 79 = .ok (.iadd, 1) := by decide +kernel
theorem dX9_inch_80 : decode cX9_inch 80 = .ok (.iaload, 1) := by decide +kernel
theorem dX9_inch_81 : decode cX9_inch 81 = .ok (.iload 5, 2) := by decide +kernel
theorem dX9_inch_83 : decode cX9_inch 83 = .ok (.imul, 1) := by decide +kernel
theorem dX9_inch_84 : decode cX9_inch 84 = .ok (.bipush 100, 2) := by decide +kernel
theorem dX9_inch_86 : decode cX9_inch 86 = .ok (.idiv, 1) := by decide +kernel
theorem dX9_inch_87 : decode cX9_inch 87 = .ok (.aload_n 0, 1) := by decide +kernel
theorem dX9_inch_88 : decode cX9_inch 88 = .ok (.getfield 38, 3) := by decide +kernel
theorem dX9_inch_91 : decode cX9_inch 91 = .ok (.iconst 3, 1) := by decide +kernel
theorem dX9_inch_92 : decode cX9_inch 92 = .ok (.iload 7, 2) := by decide +kernel
theorem dX9_inch_94 : decode cX9_inch 94 = .ok (.imul, 1) := by decide +kernel
theorem dX9_inch_95 : decode cX9_inch 95 = .ok (.iconst 2, 1) := by decide +kernel
theorem dX9_inch_96 : decode cX9_inch 96 = .ok (.iadd, 1) := by decide +kernel
theorem dX9_inch_97 : decode cX9_inch 97 = .ok (.iaload, 1) := by decide +kernel
theorem dX9_inch_98 : decode cX9_inch 98 = .ok (.if_icmp .ne 7, 3) := by decide +kernel
theorem dX9_inch_101 : decode cX9_inch 101 = .ok (.iconst 1, 1) := by decide +kernel
theorem dX9_inch_102 : decode cX9_inch 102 = .ok (.goto 4, 3) := by decide +kernel
theorem dX9_inch_105 : decode cX9_inch 105 = .ok (.iconst 0, 1) := by decide +kernel
theorem dX9_inch_106 : decode cX9_inch 106 = .ok (.istore 6, 2) := by decide +kernel
theorem dX9_inch_108 : decode cX9_inch 108 = .ok (.iinc 7 1, 3) := by decide +kernel
theorem dX9_inch_111 : decode cX9_inch 111 = .ok (.goto (-68), 3) := by decide +kernel
theorem dX9_inch_114 : decode cX9_inch 114 = .ok (.iload_n 3, 1) := by decide +kernel
theorem dX9_inch_115 : decode cX9_inch 115 = .ok (.iload 6, 2) := by decide +kernel
theorem dX9_inch_117 : decode cX9_inch 117 = .ok (.ifCond .eq 7, 3) := by decide +kernel
theorem dX9_inch_120 : decode cX9_inch 120 = .ok (.iconst 1, 1) := by decide +kernel
theorem dX9_inch_121 : decode cX9_inch 121 = .ok (.goto 4, 3) := by decide +kernel
theorem dX9_inch_124 : decode cX9_inch 124 = .ok (.iconst 0, 1) := by decide +kernel
theorem dX9_inch_125 : decode cX9_inch 125 = .ok (.iadd, 1) := by decide +kernel
theorem dX9_inch_126 : decode cX9_inch 126 = .ok (.istore_n 3, 1) := by decide +kernel
theorem dX9_inch_127 : decode cX9_inch 127 = .ok (.iload 6, 2) := by decide +kernel
theorem dX9_inch_129 : decode cX9_inch 129 = .ok (.ifCond .eq 8, 3) := by decide +kernel
theorem dX9_inch_132 : decode cX9_inch 132 = .ok (.iload 5, 2) := by decide +kernel
theorem dX9_inch_134 : decode cX9_inch 134 = .ok (.goto 5, 3) := by decide +kernel
theorem dX9_inch_137 : decode cX9_inch 137 = .ok (.iload 4, 2) := by decide +kernel
theorem dX9_inch_139 : decode cX9_inch 139 = .ok (.istore 4, 2) := by decide +kernel
theorem dX9_inch_141 : decode cX9_inch 141 = .ok (.iinc 5 (-1), 3) := by decide +kernel
theorem dX9_inch_144 : decode cX9_inch 144 = .ok (.goto (-114), 3) := by decide +kernel
theorem dX9_inch_147 : decode cX9_inch 147 = .ok (.iload_n 2, 1) := by decide +kernel
theorem dX9_inch_148 : decode cX9_inch 148 = .ok (.ifCond .ne 7, 3) := by decide +kernel
theorem dX9_inch_151 : decode cX9_inch 151 = .ok (.iload_n 3, 1) := by decide +kernel
theorem dX9_inch_152 : decode cX9_inch 152 = .ok (.goto 5, 3) := by decide +kernel
theorem dX9_inch_155 : decode cX9_inch 155 = .ok (.iload 4, 2) := by decide +kernel
theorem dX9_inch_157 : decode cX9_inch 157 = .ok (.ireturn, 1) := by decide +kernel
theorem dX9_added_0 : decode cX9_added 0 = .ok (.aload_n 0, 1) := by decide +kernel
theorem dX9_added_1 : decode cX9_added 1 = .ok (.iload_n 1, 1) := by decide +kernel
theorem dX9_added_2 : decode cX9_added 2 = .ok (.invokevirtual 151, 3) := by decide +kernel
theorem dX9_added_5 : decode cX9_added 5 = .ok (.ifCond .eq 15, 3) := by decide +kernel
theorem dX9_added_8 : decode cX9_added 8 = .ok (.iload_n 2, 1) := by decide +kernel
theorem dX9_added_9 : decode cX9_added 9 = .ok (.i2l, 1) := by decide +kernel
theorem dX9_added_10 : decode cX9_added 10 = .ok (.lconst 1, 1) := by decide +kernel
theorem dX9_added_11 : decode cX9_added 11 = .ok (.ldc2_w 180, 3) := by decide +kernel
theorem dX9_added_14 : decode cX9_added 14 = .ok (.invokestatic 70, 3) := by decide +kernel
theorem dX9_added_17 : decode cX9_added 17 = .ok (.ifCond .ne 5, 3) := by decide +kernel
theorem dX9_added_20 : decode cX9_added 20 = .ok (.iconst (-1), 1) := by decide +kernel
theorem dX9_added_21 : decode cX9_added 21 = .ok (.ireturn, 1) := by decide +kernel
theorem dX9_added_22 : decode cX9_added 22 = .ok (.iconst 0, 1) := by decide +kernel
theorem dX9_added_23 : decode cX9_added 23 = .ok (.istore_n 3, 1) := by decide +kernel
theorem dX9_added_24 : decode cX9_added 24 = .ok (.iload_n 3, 1) := by decide +kernel
theorem dX9_added_25 : decode cX9_added 25 = .ok (.bipush 10, 2) := by decide +kernel
theorem dX9_added_27 : decode cX9_added 27 = .ok (.if_icmp .ge 40, 3) := by decide +kernel
theorem dX9_added_30 : decode cX9_added 30 = .ok (.aload_n 0, 1) := by decide +kernel
theorem dX9_added_31 : decode cX9_added 31 = .ok (.iload_n 1, 1) := by decide +kernel
theorem dX9_added_32 : decode cX9_added 32 = .ok (.iload_n 3, 1) := by decide +kernel
theorem dX9_added_33 : decode cX9_added 33 = .ok (.ineg, 1) := by decide +kernel
theorem dX9_added_34 : decode cX9_added 34 = .ok (.invokevirtual 144, 3) := by decide +kernel
theorem dX9_added_37 : decode cX9_added 37 = .ok (.iload_n 2, 1) := by decide +kernel
theorem dX9_added_38 : decode cX9_added 38 = .ok (.if_icmp .ne 8, 3) := by decide +kernel
theorem dX9_added_41 : decode cX9_added 41 = .ok (.bipush 100, 2) := by decide +kernel
theorem dX9_added_43 : decode cX9_added 43 = .ok (.iload_n 3, 1) := by decide +kernel
theorem dX9_added_44 : decode cX9_added 44 = .ok (.isub, 1) := by decide +kernel
theorem dX9_added_45 : decode cX9_added 45 = .ok (.ireturn, 1) := by decide +kernel
theorem dX9_added_46 : decode cX9_added 46 = .ok (.aload_n 0, 1) := by decide +kernel
theorem dX9_added_47 : decode cX9_added 47 = .ok (.iload_n 1, 1) := by decide +kernel
theorem dX9_added_48 : decode cX9_added 48 = .ok (.iload_n 3, 1) := by decide +kernel
theorem dX9_added_49 : decode cX9_added 49 = .ok (.invokevirtual 144, 3) := by decide +kernel
theorem dX9_added_52 : decode cX9_added 52 = .ok (.iload_n 2, 1) := by decide +kernel
theorem dX9_added_53 : decode cX9_added 53 = .ok (.if_icmp .ne 8, 3) := by decide +kernel
theorem dX9_added_56 : decode cX9_added 56 = .ok (.bipush 100, 2) := by decide +kernel
theorem dX9_added_58 : decode cX9_added 58 = .ok (.iload_n 3, 1) := by decide +kernel
theorem dX9_added_59 : decode cX9_added 59 = .ok (.iadd, 1) := by decide +kernel
theorem dX9_added_60 : decode cX9_added 60 = .ok (.ireturn, 1) := by decide +kernel
theorem dX9_added_61 : decode cX9_added 61 = .ok (.iinc 3 1, 3) := by decide +kernel
theorem dX9_added_64 : decode cX9_added 64 = .ok (.goto (-40), 3) := by decide +kernel
theorem dX9_added_67 : decode cX9_added 67 = .ok (.bipush (-4), 2) := by decide +kernel
theorem dX9_added_69 : decode cX9_added 69 = .ok (.ireturn, 1) := by decide +kernel
theorem dX9_nextBolts_0 : decode cX9_nextBolts 0 = .ok (.aload_n 0, 1) := by decide +kernel
theorem dX9_nextBolts_1 : decode cX9_nextBolts 1 = .ok (.getfield 23, 3) := by decide +kernel
theorem dX9_nextBolts_4 : decode cX9_nextBolts 4 = .ok (.iconst 0, 1) := by decide +kernel
theorem dX9_nextBolts_5 : decode cX9_nextBolts 5 = .ok (.iaload, 1) := by decide +kernel
theorem dX9_nextBolts_6 : decode cX9_nextBolts 6 = .ok (.iconst 1, 1) := by decide +kernel
theorem dX9_nextBolts_7 : decode cX9_nextBolts 7 = .ok (.isub, 1) := by decide +kernel
theorem dX9_nextBolts_8 : decode cX9_nextBolts 8 = .ok (.istore_n 1, 1) := by decide +kernel
theorem dX9_nextBolts_9 : decode cX9_nextBolts 9 = .ok (.iload_n 1, 1) := by decide +kernel
theorem dX9_nextBolts_10 : decode cX9_nextBolts 10 = .ok (.ifCond .le 74, 3) := by decide +kernel
theorem dX9_nextBolts_13 : decode cX9_nextBolts 13 = .ok (.iconst 0, 1) := by decide +kernel
theorem dX9_nextBolts_14 : decode cX9_nextBolts 14 = .ok (.istore_n 2, 1) := by decide +kernel
theorem dX9_nextBolts_15 : decode cX9_nextBolts 15 = .ok (.iconst 0, 1) := by decide +kernel
theorem dX9_nextBolts_16 : decode cX9_nextBolts 16 = .ok (.istore_n 3, 1) := by decide +kernel
theorem dX9_nextBolts_17 : decode cX9_nextBolts 17 = .ok (.iload_n 3, 1) := by decide +kernel
theorem dX9_nextBolts_18 : decode cX9_nextBolts 18 = .ok (.iload_n 1, 1) := by decide +kernel
theorem dX9_nextBolts_19 : decode cX9_nextBolts 19 = .ok (.if_icmp .ge 30, 3) := by decide +kernel
theorem dX9_nextBolts_22 : decode cX9_nextBolts 22 = .ok (.aload_n 0, 1) := by decide +kernel
theorem dX9_nextBolts_23 : decode cX9_nextBolts 23 = .ok (.getfield 44, 3) := by decide +kernel
theorem dX9_nextBolts_26 : decode cX9_nextBolts 26 = .ok (.iload_n 3, 1) := by decide +kernel
theorem dX9_nextBolts_27 : decode cX9_nextBolts 27 = .ok (.iaload, 1) := by decide +kernel
theorem dX9_nextBolts_28 : decode cX9_nextBolts 28 = .ok (.iload_n 2, 1) := by decide +kernel
theorem dX9_nextBolts_29 : decode cX9_nextBolts 29 = .ok (.if_icmp .le 12, 3) := by decide +kernel
theorem dX9_nextBolts_32 : decode cX9_nextBolts 32 = .ok (.aload_n 0, 1) := by decide +kernel
theorem dX9_nextBolts_33 : decode cX9_nextBolts 33 = .ok (.getfield 44, 3) := by decide +kernel
theorem dX9_nextBolts_36 : decode cX9_nextBolts 36 = .ok (.iload_n 3, 1) := by decide +kernel
theorem dX9_nextBolts_37 : decode cX9_nextBolts 37 = .ok (.iaload, 1) := by decide +kernel
theorem dX9_nextBolts_38 : decode cX9_nextBolts 38 = .ok (.goto 4, 3) := by decide +kernel
theorem dX9_nextBolts_41 : decode cX9_nextBolts 41 = .ok (.iload_n 2, 1) := by decide +kernel
theorem dX9_nextBolts_42 : decode cX9_nextBolts 42 = .ok (.istore_n 2, 1) := by decide +kernel
theorem dX9_nextBolts_43 : decode cX9_nextBolts 43 = .ok (.iinc 3 1, 3) := by decide +kernel
theorem dX9_nextBolts_46 : decode cX9_nextBolts 46 = .ok (.goto (-29), 3) := by decide +kernel
theorem dX9_nextBolts_49 : decode cX9_nextBolts 49 = .ok (.aload_n 0, 1) := by decide +kernel
theorem dX9_nextBolts_50 : decode cX9_nextBolts 50 = .ok (.getfield 44, 3) := by decide +kernel
theorem dX9_nextBolts_53 : decode cX9_nextBolts 53 = .ok (.iload_n 1, 1) := by decide +kernel
theorem dX9_nextBolts_54 : decode cX9_nextBolts 54 = .ok (.iaload, 1) := by decide +kernel
theorem dX9_nextBolts_55 : decode cX9_nextBolts 55 = .ok (.iload_n 2, 1) := by decide +kernel
theorem dX9_nextBolts_56 : decode cX9_nextBolts 56 = .ok (.if_icmp .gt 15, 3) := by decide +kernel
theorem dX9_nextBolts_59 : decode cX9_nextBolts 59 = .ok (.aload_n 0, 1) := by decide +kernel
theorem dX9_nextBolts_60 : decode cX9_nextBolts 60 = .ok (.getfield 44, 3) := by decide +kernel
theorem dX9_nextBolts_63 : decode cX9_nextBolts 63 = .ok (.iload_n 1, 1) := by decide +kernel
theorem dX9_nextBolts_64 : decode cX9_nextBolts 64 = .ok (.dup2, 1) := by decide +kernel
theorem dX9_nextBolts_65 : decode cX9_nextBolts 65 = .ok (.iaload, 1) := by decide +kernel
theorem dX9_nextBolts_66 : decode cX9_nextBolts 66 = .ok (.iconst 1, 1) := by decide +kernel
theorem dX9_nextBolts_67 : decode cX9_nextBolts 67 = .ok (.iadd, 1) := by decide +kernel
theorem dX9_nextBolts_68 : decode cX9_nextBolts 68 = .ok (.iastore, 1) := by decide +kernel
theorem dX9_nextBolts_69 : decode cX9_nextBolts 69 = .ok (.iconst 1, 1) := by decide +kernel
theorem dX9_nextBolts_70 : decode cX9_nextBolts 70 = .ok (.ireturn, 1) := by decide +kernel
theorem dX9_nextBolts_71 : decode cX9_nextBolts 71 = .ok (.aload_n 0, 1) := by decide +kernel
theorem dX9_nextBolts_72 : decode cX9_nextBolts 72 = .ok (.getfield 44, 3) := by decide +kernel
theorem dX9_nextBolts_75 : decode cX9_nextBolts 75 = .ok (.iload_n 1, 1) := by decide +kernel
theorem dX9_nextBolts_76 : decode cX9_nextBolts 76 = .ok (.iconst 0, 1) := by decide +kernel
theorem dX9_nextBolts_77 : decode cX9_nextBolts 77 = .ok (.iastore, 1) := by decide +kernel
theorem dX9_nextBolts_78 : decode cX9_nextBolts 78 = .ok (.iinc 1 (-1), 3) := by decide +kernel
theorem dX9_nextBolts_81 : decode cX9_nextBolts 81 = .ok (.goto (-72), 3) := by decide +kernel
theorem dX9_nextBolts_84 : decode cX9_nextBolts 84 = .ok (.iconst 0, 1) := by decide +kernel
theorem dX9_nextBolts_85 : decode cX9_nextBolts 85 = .ok (.ireturn, 1) := by decide +kernel
theorem dX9_many_0 : decode cX9_many 0 = .ok (.iconst 0, 1) := by decide +kernel
theorem dX9_many_1 : decode cX9_many 1 = .ok (.istore_n 1, 1) := by decide +kernel
theorem dX9_many_2 : decode cX9_many 2 = .ok (.iconst 0, 1) := by decide +kernel
theorem dX9_many_3 : decode cX9_many 3 = .ok (.istore_n 2, 1) := by decide +kernel
theorem dX9_many_4 : decode cX9_many 4 = .ok (.iload_n 2, 1) := by decide +kernel
theorem dX9_many_5 : decode cX9_many 5 = .ok (.bipush 7, 2) := by decide +kernel
theorem dX9_many_7 : decode cX9_many 7 = .ok (.if_icmp .ge 16, 3) := by decide +kernel
theorem dX9_many_10 : decode cX9_many 10 = .ok (.aload_n 0, 1) := by decide +kernel
theorem dX9_many_11 : decode cX9_many 11 = .ok (.getfield 53, 3) := by decide +kernel
theorem dX9_many_14 : decode cX9_many 14 = .ok (.iload_n 2, 1) := by decide +kernel
theorem dX9_many_15 : decode cX9_many 15 = .ok (.iconst 0, 1) := by decide +kernel
theorem dX9_many_16 : decode cX9_many 16 = .ok (.iastore, 1) := by decide +kernel
theorem dX9_many_17 : decode cX9_many 17 = .ok (.iinc 2 1, 3) := by decide +kernel
theorem dX9_many_20 : decode cX9_many 20 = .ok (.goto (-16), 3) := by decide +kernel
theorem dX9_many_23 : decode cX9_many 23 = .ok (.iconst 0, 1) := by decide +kernel
theorem dX9_many_24 : decode cX9_many 24 = .ok (.istore_n 2, 1) := by decide +kernel
theorem dX9_many_25 : decode cX9_many 25 = .ok (.iload_n 2, 1) := by decide +kernel
theorem dX9_many_26 : decode cX9_many 26 = .ok (.aload_n 0, 1) := by decide +kernel
theorem dX9_many_27 : decode cX9_many 27 = .ok (.getfield 23, 3) := by decide +kernel
theorem dX9_many_30 : decode cX9_many 30 = .ok (.iconst 0, 1) := by decide +kernel
theorem dX9_many_31 : decode cX9_many 31 = .ok (.iaload, 1) := by decide +kernel
theorem dX9_many_32 : decode cX9_many 32 = .ok (.if_icmp .ge 81, 3) := by decide +kernel
theorem dX9_many_35 : decode cX9_many 35 = .ok (.aload_n 0, 1) := by decide +kernel
theorem dX9_many_36 : decode cX9_many 36 = .ok (.getfield 53, 3) := by decide +kernel
theorem dX9_many_39 : decode cX9_many 39 = .ok (.aload_n 0, 1) := by decide +kernel
theorem dX9_many_40 : decode cX9_many 40 = .ok (.getfield 44, 3) := by decide +kernel
theorem dX9_many_43 : decode cX9_many 43 = .ok (.iload_n 2, 1) := by decide +kernel
theorem dX9_many_44 : decode cX9_many 44 = .ok (.iaload, 1) := by decide +kernel
theorem dX9_many_45 : decode cX9_many 45 = .ok (.dup2, 1) := by decide +kernel
theorem dX9_many_46 : decode cX9_many 46 = .ok (.iaload, 1) := by decide +kernel
theorem dX9_many_47 : decode cX9_many 47 = .ok (.aload_n 0, 1) := by decide +kernel
theorem dX9_many_48 : decode cX9_many 48 = .ok (.getfield 50, 3) := by decide +kernel
theorem dX9_many_51 : decode cX9_many 51 = .ok (.iload_n 2, 1) := by decide +kernel
theorem dX9_many_52 : decode cX9_many 52 = .ok (.iaload, 1) := by decide +kernel
theorem dX9_many_53 : decode cX9_many 53 = .ok (.iadd, 1) := by decide +kernel
theorem dX9_many_54 : decode cX9_many 54 = .ok (.iastore, 1) := by decide +kernel
theorem dX9_many_55 : decode cX9_many 55 = .ok (.aload_n 0, 1) := by decide +kernel
theorem dX9_many_56 : decode cX9_many 56 = .ok (.getfield 44, 3) := by decide +kernel
theorem dX9_many_59 : decode cX9_many 59 = .ok (.iload_n 2, 1) := by decide +kernel
theorem dX9_many_60 : decode cX9_many 60 = .ok (.iaload, 1) := by decide +kernel
theorem dX9_many_61 : decode cX9_many 61 = .ok (.iconst 1, 1) := by decide +kernel
theorem dX9_many_62 : decode cX9_many 62 = .ok (.iadd, 1) := by decide +kernel
theorem dX9_many_63 : decode cX9_many 63 = .ok (.iload_n 1, 1) := by decide +kernel
theorem dX9_many_64 : decode cX9_many 64 = .ok (.if_icmp .le 14, 3) := by decide +kernel
theorem dX9_many_67 : decode cX9_many 67 = .ok (.aload_n 0, 1) := by decide +kernel
theorem dX9_many_68 : decode cX9_many 68 = .ok (.getfield 44, 3) := by decide +kernel
theorem dX9_many_71 : decode cX9_many 71 = .ok (.iload_n 2, 1) := by decide +kernel
theorem dX9_many_72 : decode cX9_many 72 = .ok (.iaload, 1) := by decide +kernel
theorem dX9_many_73 : decode cX9_many 73 = .ok (.iconst 1, 1) := by decide +kernel
theorem dX9_many_74 : decode cX9_many 74 = .ok (.iadd, 1) := by decide +kernel
theorem dX9_many_75 : decode cX9_many 75 = .ok (.goto 4, 3) := by decide +kernel
theorem dX9_many_78 : decode cX9_many 78 = .ok (.iload_n 1, 1) := by decide +kernel
theorem dX9_many_79 : decode cX9_many 79 = .ok (.istore_n 1, 1) := by decide +kernel
theorem dX9_many_80 : decode cX9_many 80 = .ok (.aload_n 0, 1) := by decide +kernel
theorem dX9_many_81 : decode cX9_many 81 = .ok (.getfield 53, 3) := by decide +kernel
theorem dX9_many_84 : decode cX9_many 84 = .ok (.aload_n 0, 1) := by decide +kernel
theorem dX9_many_85 : decode cX9_many 85 = .ok (.getfield 44, 3) := by decide +kernel
theorem dX9_many_88 : decode cX9_many 88 = .ok (.iload_n 2, 1) := by decide +kernel
theorem dX9_many_89 : decode cX9_many 89 = .ok (.iaload, 1) := by decide +kernel
theorem dX9_many_90 : decode cX9_many 90 = .ok (.iaload, 1) := by decide +kernel
theorem dX9_many_91 : decode cX9_many 91 = .ok (.aload_n 0, 1) := by decide +kernel
theorem dX9_many_92 : decode cX9_many 92 = .ok (.getfield 13, 3) := by decide +kernel
theorem dX9_many_95 : decode cX9_many 95 = .ok (.iconst 2, 1) := by decide +kernel
theorem dX9_many_96 : decode cX9_many 96 = .ok (.iaload, 1) := by decide +kernel
theorem dX9_many_97 : decode cX9_many 97 = .ok (.if_icmp .le 8, 3) := by decide +kernel
theorem dX9_many_100 : decode cX9_many 100 = .ok (.bipush 99, 2) := by decide +kernel
theorem dX9_many_102 : decode cX9_many 102 = .ok (.goto 4, 3) := by decide +kernel
theorem dX9_many_105 : decode cX9_many 105 = .ok (.iload_n 1, 1) := by decide +kernel
theorem dX9_many_106 : decode cX9_many 106 = .ok (.istore_n 1, 1) := by decide +kernel
theorem dX9_many_107 : decode cX9_many 107 = .ok (.iinc 2 1, 3) := by decide +kernel
theorem dX9_many_110 : decode cX9_many 110 = .ok (.goto (-85), 3) := by decide +kernel
theorem dX9_many_113 : decode cX9_many 113 = .ok (.iload_n 1, 1) := by decide +kernel
theorem dX9_many_114 : decode cX9_many 114 = .ok (.ireturn, 1) := by decide +kernel
theorem dX9_bolts_0 : decode cX9_bolts 0 = .ok (.iload_n 1, 1) := by decide +kernel
theorem dX9_bolts_1 : decode cX9_bolts 1 = .ok (.i2l, 1) := by decide +kernel
theorem dX9_bolts_2 : decode cX9_bolts 2 = .ok (.ldc2_w 156, 3) := by decide +kernel
theorem dX9_bolts_5 : decode cX9_bolts 5 = .ok (.aload_n 0, 1) := by decide +kernel
theorem dX9_bolts_6 : decode cX9_bolts 6 = .ok (.getfield 23, 3) := by decide +kernel
theorem dX9_bolts_9 : decode cX9_bolts 9 = .ok (.iconst 0, 1) := by decide +kernel
theorem dX9_bolts_10 : decode cX9_bolts 10 = .ok (.iaload, 1) := by decide +kernel
theorem dX9_bolts_11 : decode cX9_bolts 11 = .ok (.iconst 1, 1) := by decide +kernel
theorem dX9_bolts_12 : decode cX9_bolts 12 = .ok (.isub, 1) := by decide +kernel
theorem dX9_bolts_13 : decode cX9_bolts 13 = .ok (.i2l, 1) := by decide +kernel
theorem dX9_bolts_14 : decode cX9_bolts 14 = .ok (.invokestatic 70, 3) := by decide +kernel
theorem dX9_bolts_17 : decode cX9_bolts 17 = .ok (.ifCond .ne 5, 3) := by decide +kernel
theorem dX9_bolts_20 : decode cX9_bolts 20 = .ok (.iconst (-1), 1) := by decide +kernel
theorem dX9_bolts_21 : decode cX9_bolts 21 = .ok (.ireturn, 1) := by decide +kernel
theorem dX9_bolts_22 : decode cX9_bolts 22 = .ok (.aload_n 0, 1) := by decide +kernel
theorem dX9_bolts_23 : decode cX9_bolts 23 = .ok (.invokevirtual 158, 3) := by decide +kernel
theorem dX9_bolts_26 : decode cX9_bolts 26 = .ok (.iconst 0, 1) := by decide +kernel
theorem dX9_bolts_27 : decode cX9_bolts 27 = .ok (.istore_n 2, 1) := by decide +kernel
theorem dX9_bolts_28 : decode cX9_bolts 28 = .ok (.iload_n 2, 1) := by decide +kernel
theorem dX9_bolts_29 : decode cX9_bolts 29 = .ok (.bipush 7, 2) := by decide +kernel
theorem dX9_bolts_31 : decode cX9_bolts 31 = .ok (.if_icmp .ge 16, 3) := by decide +kernel
theorem dX9_bolts_34 : decode cX9_bolts 34 = .ok (.aload_n 0, 1) := by decide +kernel
theorem dX9_bolts_35 : decode cX9_bolts 35 = .ok (.getfield 44, 3) := by decide +kernel
theorem dX9_bolts_38 : decode cX9_bolts 38 = .ok (.iload_n 2, 1) := by decide +kernel
theorem dX9_bolts_39 : decode cX9_bolts 39 = .ok (.iconst 0, 1) := by decide +kernel
theorem dX9_bolts_40 : decode cX9_bolts 40 = .ok (.iastore, 1) := by decide +kernel
theorem dX9_bolts_41 : decode cX9_bolts 41 = .ok (.iinc 2 1, 3) := by decide +kernel
theorem dX9_bolts_44 : decode cX9_bolts 44 = .ok (.goto (-16), 3) := by decide +kernel
theorem dX9_bolts_47 : decode cX9_bolts 47 = .ok (.bipush 99, 2) := by decide +kernel
theorem dX9_bolts_49 : decode cX9_bolts 49 = .ok (.istore_n 2, 1) := by decide +kernel
theorem dX9_bolts_50 : decode cX9_bolts 50 = .ok (.iconst 1, 1) := by decide +kernel
theorem dX9_bolts_51 : decode cX9_bolts 51 = .ok (.istore_n 3, 1) := by decide +kernel
theorem dX9_bolts_52 : decode cX9_bolts 52 = .ok (.iload_n 3, 1) := by decide +kernel
theorem dX9_bolts_53 : decode cX9_bolts 53 = .ok (.ifCond .eq 56, 3) := by decide +kernel
theorem dX9_bolts_56 : decode cX9_bolts 56 = .ok (.aload_n 0, 1) := by decide +kernel
theorem dX9_bolts_57 : decode cX9_bolts 57 = .ok (.invokevirtual 188, 3) := by decide +kernel
theorem dX9_bolts_60 : decode cX9_bolts 60 = .ok (.istore 4, 2) := by decide +kernel
theorem dX9_bolts_62 : decode cX9_bolts 62 = .ok (.iload 4, 2) := by decide +kernel
theorem dX9_bolts_64 : decode cX9_bolts 64 = .ok (.iload_n 2, 1) := by decide +kernel
theorem dX9_bolts_65 : decode cX9_bolts 65 = .ok (.if_icmp .ge 36, 3) := by decide +kernel
theorem dX9_bolts_68 : decode cX9_bolts 68 = .ok (.iload 4, 2) := by decide +kernel
theorem dX9_bolts_70 : decode cX9_bolts 70 = .ok (.istore_n 2, 1) := by decide +kernel
theorem dX9_bolts_71 : decode cX9_bolts 71 = .ok (.iconst 0, 1) := by decide +kernel
theorem dX9_bolts_72 : decode cX9_bolts 72 = .ok (.istore 5, 2) := by decide +kernel
theorem dX9_bolts_74 : decode cX9_bolts 74 = .ok (.iload 5, 2) := by decide +kernel
theorem dX9_bolts_76 : decode cX9_bolts 76 = .ok (.bipush 7, 2) := by decide +kernel
theorem dX9_bolts_78 : decode cX9_bolts 78 = .ok (.if_icmp .ge 23, 3) := by decide +kernel
theorem dX9_bolts_81 : decode cX9_bolts 81 = .ok (.aload_n 0, 1) := by decide +kernel
theorem dX9_bolts_82 : decode cX9_bolts 82 = .ok (.getfield 47, 3) := by decide +kernel
theorem dX9_bolts_85 : decode cX9_bolts 85 = .ok (.iload 5, 2) := by decide +kernel
theorem dX9_bolts_87 : decode cX9_bolts 87 = .ok (.aload_n 0, 1) := by decide +kernel
theorem dX9_bolts_88 : decode cX9_bolts 88 = .ok (.getfield 44, 3) := by decide +kernel
theorem dX9_bolts_91 : decode cX9_bolts 91 = .ok (.iload 5, 2) := by decide +kernel
theorem dX9_bolts_93 : decode cX9_bolts 93 = .ok (.iaload, 1) := by decide +kernel
theorem dX9_bolts_94 : decode cX9_bolts 94 = .ok (.iastore, 1) := by decide +kernel
theorem dX9_bolts_95 : decode cX9_bolts 95 = .ok (.iinc 5 1, 3) := by decide +kernel
theorem dX9_bolts_98 : decode cX9_bolts 98 = .ok (.goto (-24), 3) := by decide +kernel
theorem dX9_bolts_101 : decode cX9_bolts 101 = .ok (.aload_n 0, 1) := by decide +kernel
theorem dX9_bolts_102 : decode cX9_bolts 102 = .ok (.invokevirtual 191, 3) := by decide +kernel
theorem dX9_bolts_105 : decode cX9_bolts 105 = .ok (.istore_n 3, 1) := by decide +kernel
theorem dX9_bolts_106 : decode cX9_bolts 106 = .ok (.goto (-54), 3) := by decide +kernel
theorem dX9_bolts_109 : decode cX9_bolts 109 = .ok (.iload_n 2, 1) := by decide +kernel
theorem dX9_bolts_110 : decode cX9_bolts 110 = .ok (.bipush 99, 2) := by decide +kernel
theorem dX9_bolts_112 : decode cX9_bolts 112 = .ok (.if_icmp .ne 8, 3) := by decide +kernel
theorem dX9_bolts_115 : decode cX9_bolts 115 = .ok (.bipush (-4), 2) := by decide +kernel
theorem dX9_bolts_117 : decode cX9_bolts 117 = .ok (.goto 17, 3) := by decide +kernel
theorem dX9_bolts_120 : decode cX9_bolts 120 = .ok (.iload_n 1, 1) := by decide +kernel
theorem dX9_bolts_121 : decode cX9_bolts 121 = .ok (.ifCond .ge 7, 3) := by decide +kernel
theorem dX9_bolts_124 : decode cX9_bolts 124 = .ok (.iload_n 2, 1) := by decide +kernel
theorem dX9_bolts_125 : decode cX9_bolts 125 = .ok (.goto 9, 3) := by decide +kernel
theorem dX9_bolts_128 : decode cX9_bolts 128 = .ok (.aload_n 0, 1) := by decide +kernel
theorem dX9_bolts_129 : decode cX9_bolts 129 = .ok (.getfield 47, 3) := by decide +kernel
theorem dX9_bolts_132 : decode cX9_bolts 132 = .ok (.iload_n 1, 1) := by decide +kernel
theorem dX9_bolts_133 : decode cX9_bolts 133 = .ok (.iaload, 1) := by decide +kernel
theorem dX9_bolts_134 : decode cX9_bolts 134 = .ok (.ireturn, 1) := by decide +kernel
theorem dX9_coat_0 : decode cX9_coat 0 = .ok (.iload_n 1, 1) := by decide +kernel
theorem dX9_coat_1 : decode cX9_coat 1 = .ok (.i2l, 1) := by decide +kernel
theorem dX9_coat_2 : decode cX9_coat 2 = .ok (.lconst 0, 1) := by decide +kernel
theorem dX9_coat_3 : decode cX9_coat 3 = .ok (.lconst 1, 1) := by decide +kernel
theorem dX9_coat_4 : decode cX9_coat 4 = .ok (.invokestatic 70, 3) := by decide +kernel
theorem dX9_coat_7 : decode cX9_coat 7 = .ok (.ifCond .ne 5, 3) := by decide +kernel
theorem dX9_coat_10 : decode cX9_coat 10 = .ok (.iconst (-1), 1) := by decide +kernel
theorem dX9_coat_11 : decode cX9_coat 11 = .ok (.ireturn, 1) := by decide +kernel
theorem dX9_coat_12 : decode cX9_coat 12 = .ok (.aload_n 0, 1) := by decide +kernel
theorem dX9_coat_13 : decode cX9_coat 13 = .ok (.invokevirtual 158, 3) := by decide +kernel
theorem dX9_coat_16 : decode cX9_coat 16 = .ok (.iconst 0, 1) := by decide +kernel
theorem dX9_coat_17 : decode cX9_coat 17 = .ok (.istore_n 2, 1) := by decide +kernel
theorem dX9_coat_18 : decode cX9_coat 18 = .ok (.iconst (-1), 1) := by decide +kernel
theorem dX9_coat_19 : decode cX9_coat 19 = .ok (.istore_n 3, 1) := by decide +kernel
theorem dX9_coat_20 : decode cX9_coat 20 = .ok (.iconst 0, 1) := by decide +kernel
theorem dX9_coat_21 : decode cX9_coat 21 = .ok (.istore 4, 2) := by decide +kernel
theorem dX9_coat_23 : decode cX9_coat 23 = .ok (.iload 4, 2) := by decide +kernel
theorem dX9_coat_25 : decode cX9_coat 25 = .ok (.iconst 1, 1) := by decide +kernel
theorem dX9_coat_26 : decode cX9_coat 26 = .ok (.aload_n 0, 1) := by decide +kernel
theorem dX9_coat_27 : decode cX9_coat 27 = .ok (.getfield 23, 3) := by decide +kernel
theorem dX9_coat_30 : decode cX9_coat 30 = .ok (.iconst 0, 1) := by decide +kernel
theorem dX9_coat_31 : decode cX9_coat 31 = .ok (.iaload, 1) := by decide +kernel
theorem dX9_coat_32 : decode cX9_coat 32 = .ok (.ishl, 1) := by decide +kernel
theorem dX9_coat_33 : decode cX9_coat 33 = .ok (.if_icmp .ge 97, 3) := by decide +kernel
theorem dX9_coat_36 : decode cX9_coat 36 = .ok (.iconst 0, 1) := by decide +kernel
theorem dX9_coat_37 : decode cX9_coat 37 = .ok (.istore 5, 2) := by decide +kernel
theorem dX9_coat_39 : decode cX9_coat 39 = .ok (.iconst 0, 1) := by decide +kernel
theorem dX9_coat_40 : decode cX9_coat 40 = .ok (.istore 6, 2) := by decide +kernel
theorem dX9_coat_42 : decode cX9_coat 42 = .ok (.iload 6, 2) := by decide +kernel
theorem dX9_coat_44 : decode cX9_coat 44 = .ok (.aload_n 0, 1) := by decide +kernel
theorem dX9_coat_45 : decode cX9_coat 45 = .ok (.getfield 23, 3) := by decide +kernel
theorem dX9_coat_48 : decode cX9_coat 48 = .ok (.iconst 0, 1) := by decide +kernel
theorem dX9_coat_49 : decode cX9_coat 49 = .ok (.iaload, 1) := by decide +kernel
theorem dX9_coat_50 : decode cX9_coat 50 = .ok (.if_icmp .ge 43, 3) := by decide +kernel
theorem dX9_coat_53 : decode cX9_coat 53 = .ok (.iload 5, 2) := by decide +kernel
theorem dX9_coat_55 : decode cX9_coat 55 = .ok (.iload 4, 2) := by decide +kernel
theorem dX9_coat_57 : decode cX9_coat 57 = .ok (.iload 6, 2) := by decide +kernel
theorem dX9_coat_59 : decode cX9_coat 59 = .ok (.ishr, 1) := by decide +kernel
theorem dX9_coat_60 : decode cX9_coat 60 = .ok (.iconst 1, 1) := by decide +kernel
theorem dX9_coat_61 : decode cX9_coat 61 = .ok (.iand, 1) := by decide +kernel
theorem dX9_coat_62 : decode cX9_coat 62 = .ok (.iconst 1, 1) := by decide +kernel
theorem dX9_coat_63 : decode cX9_coat 63 = .ok (.if_icmp .ne 13, 3) := by decide +kernel
theorem dX9_coat_66 : decode cX9_coat 66 = .ok (.aload_n 0, 1) := by decide +kernel
theorem dX9_coat_67 : decode cX9_coat 67 = .ok (.getfield 50, 3) := by decide +kernel
theorem dX9_coat_70 : decode cX9_coat 70 = .ok (.iload 6, 2) := by decide +kernel
theorem dX9_coat_72 : decode cX9_coat 72 = .ok (.iaload, 1) := by decide +kernel
theorem dX9_coat_73 : decode cX9_coat 73 = .ok (.goto 11, 3) := by decide +kernel
theorem dX9_coat_76 : decode cX9_coat 76 = .ok (.aload_n 0, 1) := by decide +kernel
theorem dX9_coat_77 : decode cX9_coat 77 = .ok (.getfield 50, 3) := by decide +kernel
theorem dX9_coat_80 : decode cX9_coat 80 = .ok (.iload 6, 2) := by decide +kernel
theorem dX9_coat_82 : decode cX9_coat 82 = .ok (.iaload, 1) := by decide +kernel
theorem dX9_coat_83 : decode cX9_coat 83 = .ok (.ineg, 1) := by decide +kernel
theorem dX9_coat_84 : decode cX9_coat 84 = .ok (.iadd, 1) := by decide +kernel
theorem dX9_coat_85 : decode cX9_coat 85 = .ok (.istore 5, 2) := by decide +kernel
theorem dX9_coat_87 : decode cX9_coat 87 = .ok (.iinc 6 1, 3) := by decide +kernel
theorem dX9_coat_90 : decode cX9_coat 90 = .ok (.goto (-48), 3) := by decide +kernel
theorem dX9_coat_93 : decode cX9_coat 93 = .ok (.iload 5, 2) := by decide +kernel
theorem dX9_coat_95 : decode cX9_coat 95 = .ok (.ifCond .ge 9, 3) := by decide +kernel
theorem dX9_coat_98 : decode cX9_coat 98 = .ok (.iload 5, 2) := by decide +kernel
theorem dX9_coat_100 : decode cX9_coat 100 = .ok (.ineg, 1) := by decide +kernel
theorem dX9_coat_101 : decode cX9_coat 101 = .ok (.goto 5, 3) := by decide +kernel
theorem dX9_coat_104 : decode cX9_coat 104 = .ok (.iload 5, 2) := by decide +kernel
theorem dX9_coat_106 : decode cX9_coat 106 = .ok (.istore 5, 2) := by decide +kernel
theorem dX9_coat_108 : decode cX9_coat 108 = .ok (.iload_n 3, 1) := by decide +kernel
theorem dX9_coat_109 : decode cX9_coat 109 = .ok (.ifCond .lt 9, 3) := by decide +kernel
theorem dX9_coat_112 : decode cX9_coat 112 = .ok (.iload 5, 2) := by decide +kernel
theorem dX9_coat_114 : decode cX9_coat 114 = .ok (.iload_n 3, 1) := by decide +kernel
theorem dX9_coat_115 : decode cX9_coat 115 = .ok (.if_icmp .ge 9, 3) := by decide +kernel
theorem dX9_coat_118 : decode cX9_coat 118 = .ok (.iload 5, 2) := by decide +kernel
theorem dX9_coat_120 : decode cX9_coat 120 = .ok (.istore_n 3, 1) := by decide +kernel
theorem dX9_coat_121 : decode cX9_coat 121 = .ok (.iload 4, 2) := by decide +kernel
theorem dX9_coat_123 : decode cX9_coat 123 = .ok (.istore_n 2, 1) := by decide +kernel
theorem dX9_coat_124 : decode cX9_coat 124 = .ok (.iinc 4 1, 3) := by decide +kernel
theorem dX9_coat_127 : decode cX9_coat 127 = .ok (.goto (-104), 3) := by decide +kernel
theorem dX9_coat_130 : decode cX9_coat 130 = .ok (.iload_n 1, 1) := by decide +kernel
theorem dX9_coat_131 : decode cX9_coat 131 = .ok (.ifCond .ne 7, 3) := by decide +kernel
theorem dX9_coat_134 : decode cX9_coat 134 = .ok (.iload_n 2, 1) := by decide +kernel
theorem dX9_coat_135 : decode cX9_coat 135 = .ok (.goto 4, 3) := by decide +kernel
theorem dX9_coat_138 : decode cX9_coat 138 = .ok (.iload_n 3, 1) := by decide +kernel
theorem dX9_coat_139 : decode cX9_coat 139 = .ok (.ireturn, 1) := by decide +kernel
theorem dX9_tailorOf_0 : decode cX9_tailorOf 0 = .ok (.aload_n 0, 1) := by decide +kernel
theorem dX9_tailorOf_1 : decode cX9_tailorOf 1 = .ok (.getfield 26, 3) := by decide +kernel
theorem dX9_tailorOf_4 : decode cX9_tailorOf 4 = .ok (.iconst 3, 1) := by decide +kernel
theorem dX9_tailorOf_5 : decode cX9_tailorOf 5 = .ok (.aload_n 0, 1) := by decide +kernel
theorem dX9_tailorOf_6 : decode cX9_tailorOf 6 = .ok (.getfield 32, 3) := by decide +kernel
theorem dX9_tailorOf_9 : decode cX9_tailorOf 9 = .ok (.iconst 2, 1) := by decide +kernel
theorem dX9_tailorOf_10 : decode cX9_tailorOf 10 = .ok (.iload_n 1, 1) := by decide +kernel
theorem dX9_tailorOf_11 : decode cX9_tailorOf 11 = .ok (.imul, 1) := by decide +kernel
theorem dX9_tailorOf_12 : decode cX9_tailorOf 12 = .ok (.iload_n 2, 1) := by decide +kernel
theorem dX9_tailorOf_13 : decode cX9_tailorOf 13 = .ok (.iadd, 1) := by decide +kernel
theorem dX9_tailorOf_14 : decode cX9_tailorOf 14 = .ok (.iaload, 1) := by decide +kernel
theorem dX9_tailorOf_15 : decode cX9_tailorOf 15 = .ok (.imul, 1) := by decide +kernel
theorem dX9_tailorOf_16 : decode cX9_tailorOf 16 = .ok (.iconst 0, 1) := by decide +kernel
theorem dX9_tailorOf_17 : decode cX9_tailorOf 17 = .ok (.iadd, 1) := by decide +kernel
theorem dX9_tailorOf_18 : decode cX9_tailorOf 18 = .ok (.iaload, 1) := by decide +kernel
theorem dX9_tailorOf_19 : decode cX9_tailorOf 19 = .ok (.ireturn, 1) := by decide +kernel
theorem dX9_pin_0 : decode cX9_pin 0 = .ok (.iload_n 1, 1) := by decide +kernel
theorem dX9_pin_1 : decode cX9_pin 1 = .ok (.i2l, 1) := by decide +kernel
theorem dX9_pin_2 : decode cX9_pin 2 = .ok (.lconst 0, 1) := by decide +kernel
theorem dX9_pin_3 : decode cX9_pin 3 = .ok (.aload_n 0, 1) := by decide +kernel
theorem dX9_pin_4 : decode cX9_pin 4 = .ok (.getfield 29, 3) := by decide +kernel
theorem dX9_pin_7 : decode cX9_pin 7 = .ok (.iconst 0, 1) := by decide +kernel
theorem dX9_pin_8 : decode cX9_pin 8 = .ok (.iaload, 1) := by decide +kernel
theorem dX9_pin_9 : decode cX9_pin 9 = .ok (.iconst 1, 1) := by decide +kernel
theorem dX9_pin_10 : decode cX9_pin 10 = .ok (.isub, 1) := by decide +kernel
theorem dX9_pin_11 : decode cX9_pin 11 = .ok (.i2l, 1) := by decide +kernel
theorem dX9_pin_12 : decode cX9_pin 12 = .ok (.invokestatic 70, 3) := by decide +kernel
theorem dX9_pin_15 : decode cX9_pin 15 = .ok (.ifCond .ne 5, 3) := by decide +kernel
theorem dX9_pin_18 : decode cX9_pin 18 = .ok (.iconst (-1), 1) := by decide +kernel
theorem dX9_pin_19 : decode cX9_pin 19 = .ok (.ireturn, 1) := by decide +kernel
theorem dX9_pin_20 : decode cX9_pin 20 = .ok (.aload_n 0, 1) := by decide +kernel
theorem dX9_pin_21 : decode cX9_pin 21 = .ok (.iload_n 1, 1) := by decide +kernel
theorem dX9_pin_22 : decode cX9_pin 22 = .ok (.iconst 0, 1) := by decide +kernel
theorem dX9_pin_23 : decode cX9_pin 23 = .ok (.invokevirtual 194, 3) := by decide +kernel
theorem dX9_pin_26 : decode cX9_pin 26 = .ok (.aload_n 0, 1) := by decide +kernel
theorem dX9_pin_27 : decode cX9_pin 27 = .ok (.iload_n 1, 1) := by decide +kernel
theorem dX9_pin_28 : decode cX9_pin 28 = .ok (.iconst 1, 1) := by decide +kernel
theorem dX9_pin_29 : decode cX9_pin 29 = .ok (.invokevirtual 194, 3) := by decide +kernel
theorem dX9_pin_32 : decode cX9_pin 32 = .ok (.if_icmp .ne 6, 3) := by decide +kernel
theorem dX9_pin_35 : decode cX9_pin 35 = .ok (.bipush (-2), 2) := by decide +kernel
theorem dX9_pin_37 : decode cX9_pin 37 = .ok (.ireturn, 1) := by decide +kernel
theorem dX9_pin_38 : decode cX9_pin 38 = .ok (.aload_n 0, 1) := by decide +kernel
theorem dX9_pin_39 : decode cX9_pin 39 = .ok (.getfield 110, 3) := by decide +kernel
theorem dX9_pin_42 : decode cX9_pin 42 = .ok (.bipush 12, 2) := by decide +kernel
theorem dX9_pin_44 : decode cX9_pin 44 = .ok (.if_icmp .ne 6, 3) := by decide +kernel
theorem dX9_pin_47 : decode cX9_pin 47 = .ok (.bipush (-3), 2) := by decide +kernel
theorem dX9_pin_49 : decode cX9_pin 49 = .ok (.ireturn, 1) := by decide +kernel
theorem dX9_pin_50 : decode cX9_pin 50 = .ok (.aload_n 0, 1) := by decide +kernel
theorem dX9_pin_51 : decode cX9_pin 51 = .ok (.getfield 41, 3) := by decide +kernel
theorem dX9_pin_54 : decode cX9_pin 54 = .ok (.aload_n 0, 1) := by decide +kernel
theorem dX9_pin_55 : decode cX9_pin 55 = .ok (.getfield 110, 3) := by decide +kernel
theorem dX9_pin_58 : decode cX9_pin 58 = .ok (.iload_n 1, 1) := by decide +kernel
theorem dX9_pin_59 : decode cX9_pin 59 = .ok (.iastore, 1) := by decide +kernel
theorem dX9_pin_60 : decode cX9_pin 60 = .ok (.aload_n 0, 1) := by decide +kernel
theorem dX9_pin_61 : decode cX9_pin 61 = .ok (.dup, 1) := by decide +kernel
theorem dX9_pin_62 : decode cX9_pin 62 = .ok (.getfield 110, 3) := by decide +kernel
theorem dX9_pin_65 : decode cX9_pin 65 = .ok (.iconst 1, 1) := by decide +kernel
theorem dX9_pin_66 : decode cX9_pin 66 = .ok (.iadd, 1) := by decide +kernel
theorem dX9_pin_67 : decode cX9_pin 67 = .ok (.putfield 110, 3) := by decide +kernel
theorem dX9_pin_70 : decode cX9_pin 70 = .ok (.aload_n 0, 1) := by decide +kernel
theorem dX9_pin_71 : decode cX9_pin 71 = .ok (.getfield 110, 3) := by decide +kernel
theorem dX9_pin_74 : decode cX9_pin 74 = .ok (.ireturn, 1) := by decide +kernel
theorem dX9_noPins_0 : decode cX9_noPins 0 = .ok (.aload_n 0, 1) := by decide +kernel
theorem dX9_noPins_1 : decode cX9_noPins 1 = .ok (.getfield 110, 3) := by decide +kernel
theorem dX9_noPins_4 : decode cX9_noPins 4 = .ok (.istore_n 1, 1) := by decide +kernel
theorem dX9_noPins_5 : decode cX9_noPins 5 = .ok (.aload_n 0, 1) := by decide +kernel
theorem dX9_noPins_6 : decode cX9_noPins 6 = .ok (.iconst 0, 1) := by decide +kernel
theorem dX9_noPins_7 : decode cX9_noPins 7 = .ok (.putfield 110, 3) := by decide +kernel
theorem dX9_noPins_10 : decode cX9_noPins 10 = .ok (.iload_n 1, 1) := by decide +kernel
theorem dX9_noPins_11 : decode cX9_noPins 11 = .ok (.ireturn, 1) := by decide +kernel
theorem dX9_thumb_0 : decode cX9_thumb 0 = .ok (.iload_n 1, 1) := by decide +kernel
theorem dX9_thumb_1 : decode cX9_thumb 1 = .ok (.ifCond .ge 5, 3) := by decide +kernel
theorem dX9_thumb_4 : decode cX9_thumb 4 = .ok (.iconst (-1), 1) := by decide +kernel
theorem dX9_thumb_5 : decode cX9_thumb 5 = .ok (.ireturn, 1) := by decide +kernel
theorem dX9_thumb_6 : decode cX9_thumb 6 = .ok (.iload_n 1, 1) := by decide +kernel
theorem dX9_thumb_7 : decode cX9_thumb 7 = .ok (.aload_n 0, 1) := by decide +kernel
theorem dX9_thumb_8 : decode cX9_thumb 8 = .ok (.getfield 110, 3) := by decide +kernel
theorem dX9_thumb_11 : decode cX9_thumb 11 = .ok (.if_icmp .lt 6, 3) := by decide +kernel
theorem dX9_thumb_14 : decode cX9_thumb 14 = .ok (.bipush (-4), 2) := by decide +kernel
theorem dX9_thumb_16 : decode cX9_thumb 16 = .ok (.ireturn, 1) := by decide +kernel
theorem dX9_thumb_17 : decode cX9_thumb 17 = .ok (.iconst 0, 1) := by decide +kernel
theorem dX9_thumb_18 : decode cX9_thumb 18 = .ok (.istore_n 2, 1) := by decide +kernel
theorem dX9_thumb_19 : decode cX9_thumb 19 = .ok (.iconst 0, 1) := by decide +kernel
theorem dX9_thumb_20 : decode cX9_thumb 20 = .ok (.istore_n 3, 1) := by decide +kernel
theorem dX9_thumb_21 : decode cX9_thumb 21 = .ok (.iload_n 3, 1) := by decide +kernel
theorem dX9_thumb_22 : decode cX9_thumb 22 = .ok (.iload_n 1, 1) := by decide +kernel
theorem dX9_thumb_23 : decode cX9_thumb 23 = .ok (.if_icmp .ge 32, 3) := by decide +kernel
theorem dX9_thumb_26 : decode cX9_thumb 26 = .ok (.iload_n 2, 1) := by decide +kernel
theorem dX9_thumb_27 : decode cX9_thumb 27 = .ok (.aload_n 0, 1) := by decide +kernel
theorem dX9_thumb_28 : decode cX9_thumb 28 = .ok (.getfield 41, 3) := by decide +kernel
theorem dX9_thumb_31 : decode cX9_thumb 31 = .ok (.iload_n 3, 1) := by decide +kernel
theorem dX9_thumb_32 : decode cX9_thumb 32 = .ok (.iaload, 1) := by decide +kernel
theorem dX9_thumb_33 : decode cX9_thumb 33 = .ok (.aload_n 0, 1) := by decide +kernel
theorem dX9_thumb_34 : decode cX9_thumb 34 = .ok (.getfield 41, 3) := by decide +kernel
theorem dX9_thumb_37 : decode cX9_thumb 37 = .ok (.iload_n 1, 1) := by decide +kernel
theorem dX9_thumb_38 : decode cX9_thumb 38 = .ok (.iaload, 1) := by decide +kernel
theorem dX9_thumb_39 : decode cX9_thumb 39 = .ok (.if_icmp .ne 7, 3) := by decide +kernel
theorem dX9_thumb_42 : decode cX9_thumb 42 = .ok (.iconst 1, 1) := by decide +kernel
theorem dX9_thumb_43 : decode cX9_thumb 43 = .ok (.goto 4, 3) := by decide +kernel
theorem dX9_thumb_46 : decode cX9_thumb 46 = .ok (.iconst 0, 1) := by decide +kernel
theorem dX9_thumb_47 : decode cX9_thumb 47 = .ok (.iadd, 1) := by decide +kernel
theorem dX9_thumb_48 : decode cX9_thumb 48 = .ok (.istore_n 2, 1) := by decide +kernel
theorem dX9_thumb_49 : decode cX9_thumb 49 = .ok (.iinc 3 1, 3) := by decide +kernel
theorem dX9_thumb_52 : decode cX9_thumb 52 = .ok (.goto (-31), 3) := by decide +kernel
theorem dX9_thumb_55 : decode cX9_thumb 55 = .ok (.aload_n 0, 1) := by decide +kernel
theorem dX9_thumb_56 : decode cX9_thumb 56 = .ok (.aload_n 0, 1) := by decide +kernel
theorem dX9_thumb_57 : decode cX9_thumb 57 = .ok (.getfield 41, 3) := by decide +kernel
theorem dX9_thumb_60 : decode cX9_thumb 60 = .ok (.iload_n 1, 1) := by decide +kernel
theorem dX9_thumb_61 : decode cX9_thumb 61 = .ok (.iaload, 1) := by decide +kernel
theorem dX9_thumb_62 : decode cX9_thumb 62 = .ok (.iload_n 2, 1) := by decide +kernel
theorem dX9_thumb_63 : decode cX9_thumb 63 = .ok (.iconst 2, 1) := by decide +kernel
theorem dX9_thumb_64 : decode cX9_thumb 64 = .ok (.irem, 1) := by decide +kernel
theorem dX9_thumb_65 : decode cX9_thumb 65 = .ok (.invokevirtual 194, 3) := by decide +kernel
theorem dX9_thumb_68 : decode cX9_thumb 68 = .ok (.ireturn, 1) := by decide +kernel
theorem dX9_year_0 : decode cX9_year 0 = .ok (.iload_n 1, 1) := by decide +kernel
theorem dX9_year_1 : decode cX9_year 1 = .ok (.i2l, 1) := by decide +kernel
theorem dX9_year_2 : decode cX9_year 2 = .ok (.lconst 0, 1) := by decide +kernel
theorem dX9_year_3 : decode cX9_year 3 = .ok (.ldc2_w 197, 3) := by decide +kernel
theorem dX9_year_6 : decode cX9_year 6 = .ok (.invokestatic 70, 3) := by decide +kernel
theorem dX9_year_9 : decode cX9_year 9 = .ok (.ifCond .eq 25, 3) := by decide +kernel
theorem dX9_year_12 : decode cX9_year 12 = .ok (.iload_n 2, 1) := by decide +kernel
theorem dX9_year_13 : decode cX9_year 13 = .ok (.i2l, 1) := by decide +kernel
theorem dX9_year_14 : decode cX9_year 14 = .ok (.lconst 1, 1) := by decide +kernel
theorem dX9_year_15 : decode cX9_year 15 = .ok (.ldc2_w 199, 3) := by decide +kernel
theorem dX9_year_18 : decode cX9_year 18 = .ok (.invokestatic 70, 3) := by decide +kernel
theorem dX9_year_21 : decode cX9_year 21 = .ok (.ifCond .eq 13, 3) := by decide +kernel
theorem dX9_year_24 : decode cX9_year 24 = .ok (.iload_n 3, 1) := by decide +kernel
theorem dX9_year_25 : decode cX9_year 25 = .ok (.i2l, 1) := by decide +kernel
theorem dX9_year_26 : decode cX9_year 26 = .ok (.lconst 0, 1) := by decide +kernel
theorem dX9_year_27 : decode cX9_year 27 = .ok (.lconst 1, 1) := by decide +kernel
theorem dX9_year_28 : decode cX9_year 28 = .ok (.invokestatic 70, 3) := by decide +kernel
theorem dX9_year_31 : decode cX9_year 31 = .ok (.ifCond .ne 5, 3) := by decide +kernel
theorem dX9_year_34 : decode cX9_year 34 = .ok (.iconst (-1), 1) := by decide +kernel
theorem dX9_year_35 : decode cX9_year 35 = .ok (.ireturn, 1) := by decide +kernel
theorem dX9_year_36 : decode cX9_year 36 = .ok (.iconst 0, 1) := by decide +kernel
theorem dX9_year_37 : decode cX9_year 37 = .ok (.istore 4, 2) := by decide +kernel
theorem dX9_year_39 : decode cX9_year 39 = .ok (.iconst 0, 1) := by decide +kernel
theorem dX9_year_40 : decode cX9_year 40 = .ok (.istore 5, 2) := by decide +kernel
theorem dX9_year_42 : decode cX9_year 42 = .ok (.iconst 0, 1) := by decide +kernel
theorem dX9_year_43 : decode cX9_year 43 = .ok (.istore 6, 2) := by decide +kernel
theorem dX9_year_45 : decode cX9_year 45 = .ok (.iload 6, 2) := by decide +kernel
theorem dX9_year_47 : decode cX9_year 47 = .ok (.iload_n 2, 1) := by decide +kernel
theorem dX9_year_48 : decode cX9_year 48 = .ok (.if_icmp .ge 87, 3) := by decide +kernel
theorem dX9_year_51 : decode cX9_year 51 = .ok (.iconst 0, 1) := by decide +kernel
theorem dX9_year_52 : decode cX9_year 52 = .ok (.istore 7, 2) := by decide +kernel
theorem dX9_year_54 : decode cX9_year 54 = .ok (.iload 7, 2) := by decide +kernel
theorem dX9_year_56 : decode cX9_year 56 = .ok (.aload_n 0, 1) := by decide +kernel
theorem dX9_year_57 : decode cX9_year 57 = .ok (.getfield 23, 3) := by decide +kernel
theorem dX9_year_60 : decode cX9_year 60 = .ok (.iconst 0, 1) := by decide +kernel
theorem dX9_year_61 : decode cX9_year 61 = .ok (.iaload, 1) := by decide +kernel
theorem dX9_year_62 : decode cX9_year 62 = .ok (.if_icmp .ge 41, 3) := by decide +kernel
theorem dX9_year_65 : decode cX9_year 65 = .ok (.aload_n 0, 1) := by decide +kernel
theorem dX9_year_66 : decode cX9_year 66 = .ok (.getfield 50, 3) := by decide +kernel
theorem dX9_year_69 : decode cX9_year 69 = .ok (.iload 7, 2) := by decide +kernel
theorem dX9_year_71 : decode cX9_year 71 = .ok (.aload_n 0, 1) := by decide +kernel
theorem dX9_year_72 : decode cX9_year 72 = .ok (.iload 7, 2) := by decide +kernel
theorem dX9_year_74 : decode cX9_year 74 = .ok (.iload_n 1, 1) := by decide +kernel
theorem dX9_year_75 : decode cX9_year 75 = .ok (.iload 6, 2) := by decide +kernel
theorem dX9_year_77 : decode cX9_year 77 = .ok (.iadd, 1) := by decide +kernel
theorem dX9_year_78 : decode cX9_year 78 = .ok (.sipush 1000, 3) := by decide +kernel
theorem dX9_year_81 : decode cX9_year 81 = .ok (.irem, 1) := by decide +kernel
theorem dX9_year_82 : decode cX9_year 82 = .ok (.iload 7, 2) := by decide +kernel
theorem dX9_year_84 : decode cX9_year 84 = .ok (.aload_n 0, 1) := by decide +kernel
theorem dX9_year_85 : decode cX9_year 85 = .ok (.iload 7, 2) := by decide +kernel
theorem dX9_year_87 : decode cX9_year 87 = .ok (.invokevirtual 134, 3) := by decide +kernel
theorem dX9_year_90 : decode cX9_year 90 = .ok (.invokestatic 137, 3) := by decide +kernel
theorem dX9_year_93 : decode cX9_year 93 = .ok (.invokevirtual 144, 3) := by decide +kernel
theorem dX9_year_96 : decode cX9_year 96 = .ok (.iastore, 1) := by decide +kernel
theorem dX9_year_97 : decode cX9_year 97 = .ok (.iinc 7 1, 3) := by decide +kernel
theorem dX9_year_100 : decode cX9_year 100 = .ok (.goto (-46), 3) := by decide +kernel
theorem dX9_year_103 : decode cX9_year 103 = .ok (.iload 4, 2) := by decide +kernel
theorem dX9_year_105 : decode cX9_year 105 = .ok (.aload_n 0, 1) := by decide +kernel
theorem dX9_year_106 : decode cX9_year 106 = .ok (.invokevirtual 164, 3) := by decide +kernel
theorem dX9_year_109 : decode cX9_year 109 = .ok (.ifCond .eq 7, 3) := by decide +kernel
theorem dX9_year_112 : decode cX9_year 112 = .ok (.iconst 1, 1) := by decide +kernel
theorem dX9_year_113 : decode cX9_year 113 = .ok (.goto 4, 3) := by decide +kernel
theorem dX9_year_116 : decode cX9_year 116 = .ok (.iconst 0, 1) := by decide +kernel
theorem dX9_year_117 : decode cX9_year 117 = .ok (.iadd, 1) := by decide +kernel
theorem dX9_year_118 : decode cX9_year 118 = .ok (.istore 4, 2) := by decide +kernel
theorem dX9_year_120 : decode cX9_year 120 = .ok (.iload 5, 2) := by decide +kernel
theorem dX9_year_122 : decode cX9_year 122 = .ok (.aload_n 0, 1) := by decide +kernel
theorem dX9_year_123 : decode cX9_year 123 = .ok (.invokevirtual 161, 3) := by decide +kernel
theorem dX9_year_126 : decode cX9_year 126 = .ok (.iadd, 1) := by decide +kernel
theorem dX9_year_127 : decode cX9_year 127 = .ok (.istore 5, 2) := by decide +kernel
theorem dX9_year_129 : decode cX9_year 129 = .ok (.iinc 6 1, 3) := by decide +kernel
theorem dX9_year_132 : decode cX9_year 132 = .ok (.goto (-87), 3) := by decide +kernel
theorem dX9_year_135 : decode cX9_year 135 = .ok (.iload_n 3, 1) := by decide +kernel
theorem dX9_year_136 : decode cX9_year 136 = .ok (.ifCond .ne 8, 3) := by decide +kernel
theorem dX9_year_139 : decode cX9_year 139 = .ok (.iload 4, 2) := by decide +kernel
theorem dX9_year_141 : decode cX9_year 141 = .ok (.goto 5, 3) := by decide +kernel
theorem dX9_year_144 : decode cX9_year 144 = .ok (.iload 5, 2) := by decide +kernel
theorem dX9_year_146 : decode cX9_year 146 = .ok (.ireturn, 1) := by decide +kernel
theorem dX9_keep_0 : decode cX9_keep 0 = .ok (.aload_n 0, 1) := by decide +kernel
theorem dX9_keep_1 : decode cX9_keep 1 = .ok (.getfield 116, 3) := by decide +kernel
theorem dX9_keep_4 : decode cX9_keep 4 = .ok (.iconst 2, 1) := by decide +kernel
theorem dX9_keep_5 : decode cX9_keep 5 = .ok (.if_icmp .ne 6, 3) := by decide +kernel
theorem dX9_keep_8 : decode cX9_keep 8 = .ok (.bipush (-3), 2) := by decide +kernel
theorem dX9_keep_10 : decode cX9_keep 10 = .ok (.ireturn, 1) := by decide +kernel
theorem dX9_keep_11 : decode cX9_keep 11 = .ok (.aload_n 0, 1) := by decide +kernel
theorem dX9_keep_12 : decode cX9_keep 12 = .ok (.dup, 1) := by decide +kernel
theorem dX9_keep_13 : decode cX9_keep 13 = .ok (.getfield 116, 3) := by decide +kernel
theorem dX9_keep_16 : decode cX9_keep 16 = .ok (.iconst 1, 1) := by decide +kernel
theorem dX9_keep_17 : decode cX9_keep 17 = .ok (.iadd, 1) := by decide +kernel
theorem dX9_keep_18 : decode cX9_keep 18 = .ok (.putfield 116, 3) := by decide +kernel
theorem dX9_keep_21 : decode cX9_keep 21 = .ok (.aload_n 0, 1) := by decide +kernel
theorem dX9_keep_22 : decode cX9_keep 22 = .ok (.iconst 0, 1) := by decide +kernel
theorem dX9_keep_23 : decode cX9_keep 23 = .ok (.aload_n 0, 1) := by decide +kernel
theorem dX9_keep_24 : decode cX9_keep 24 = .ok (.getfield 116, 3) := by decide +kernel
theorem dX9_keep_27 : decode cX9_keep 27 = .ok (.invokevirtual 167, 3) := by decide +kernel
theorem dX9_keep_30 : decode cX9_keep 30 = .ok (.aload_n 0, 1) := by decide +kernel
theorem dX9_keep_31 : decode cX9_keep 31 = .ok (.getfield 116, 3) := by decide +kernel
theorem dX9_keep_34 : decode cX9_keep 34 = .ok (.ireturn, 1) := by decide +kernel
theorem dX9_back_0 : decode cX9_back 0 = .ok (.aload_n 0, 1) := by decide +kernel
theorem dX9_back_1 : decode cX9_back 1 = .ok (.getfield 116, 3) := by decide +kernel
theorem dX9_back_4 : decode cX9_back 4 = .ok (.ifCond .ne 6, 3) := by decide +kernel
theorem dX9_back_7 : decode cX9_back 7 = .ok (.bipush (-2), 2) := by decide +kernel
theorem dX9_back_9 : decode cX9_back 9 = .ok (.ireturn, 1) := by decide +kernel
theorem dX9_back_10 : decode cX9_back 10 = .ok (.aload_n 0, 1) := by decide +kernel
theorem dX9_back_11 : decode cX9_back 11 = .ok (.aload_n 0, 1) := by decide +kernel
theorem dX9_back_12 : decode cX9_back 12 = .ok (.getfield 116, 3) := by decide +kernel
theorem dX9_back_15 : decode cX9_back 15 = .ok (.iconst 0, 1) := by decide +kernel
theorem dX9_back_16 : decode cX9_back 16 = .ok (.invokevirtual 167, 3) := by decide +kernel
theorem dX9_back_19 : decode cX9_back 19 = .ok (.aload_n 0, 1) := by decide +kernel
theorem dX9_back_20 : decode cX9_back 20 = .ok (.dup, 1) := by decide +kernel
theorem dX9_back_21 : decode cX9_back 21 = .ok (.getfield 116, 3) := by decide +kernel
theorem dX9_back_24 : decode cX9_back 24 = .ok (.iconst 1, 1) := by decide +kernel
theorem dX9_back_25 : decode cX9_back 25 = .ok (.isub, 1) := by decide +kernel
theorem dX9_back_26 : decode cX9_back 26 = .ok (.putfield 116, 3) := by decide +kernel
theorem dX9_back_29 : decode cX9_back 29 = .ok (.aload_n 0, 1) := by decide +kernel
theorem dX9_back_30 : decode cX9_back 30 = .ok (.iconst 0, 1) := by decide +kernel
theorem dX9_back_31 : decode cX9_back 31 = .ok (.putfield 113, 3) := by decide +kernel
theorem dX9_back_34 : decode cX9_back 34 = .ok (.aload_n 0, 1) := by decide +kernel
theorem dX9_back_35 : decode cX9_back 35 = .ok (.getfield 116, 3) := by decide +kernel
theorem dX9_back_38 : decode cX9_back 38 = .ok (.ireturn, 1) := by decide +kernel
theorem dX9_count_0 : decode cX9_count 0 = .ok (.iload_n 1, 1) := by decide +kernel
theorem dX9_count_1 : decode cX9_count 1 = .ok (.tableswitch 93 0 7 #[47, 54, 61, 68, 73, 78, 83, 88], 47) := by decide +kernel
theorem dX9_count_48 : decode cX9_count 48 = .ok (.aload_n 0, 1) := by decide +kernel
theorem dX9_count_49 : decode cX9_count 49 = .ok (.getfield 17, 3) := by decide +kernel
theorem dX9_count_52 : decode cX9_count 52 = .ok (.iconst 0, 1) := by decide +kernel
theorem dX9_count_53 : decode cX9_count 53 = .ok (.iaload, 1) := by decide +kernel
theorem dX9_count_54 : decode cX9_count 54 = .ok (.ireturn, 1) := by decide +kernel
theorem dX9_count_55 : decode cX9_count 55 = .ok (.aload_n 0, 1) := by decide +kernel
theorem dX9_count_56 : decode cX9_count 56 = .ok (.getfield 23, 3) := by decide +kernel
theorem dX9_count_59 : decode cX9_count 59 = .ok (.iconst 0, 1) := by decide +kernel
theorem dX9_count_60 : decode cX9_count 60 = .ok (.iaload, 1) := by decide +kernel
theorem dX9_count_61 : decode cX9_count 61 = .ok (.ireturn, 1) := by decide +kernel
theorem dX9_count_62 : decode cX9_count 62 = .ok (.aload_n 0, 1) := by decide +kernel
theorem dX9_count_63 : decode cX9_count 63 = .ok (.getfield 29, 3) := by decide +kernel
theorem dX9_count_66 : decode cX9_count 66 = .ok (.iconst 0, 1) := by decide +kernel
theorem dX9_count_67 : decode cX9_count 67 = .ok (.iaload, 1) := by decide +kernel
theorem dX9_count_68 : decode cX9_count 68 = .ok (.ireturn, 1) := by decide +kernel
theorem dX9_count_69 : decode cX9_count 69 = .ok (.aload_n 0, 1) := by decide +kernel
theorem dX9_count_70 : decode cX9_count 70 = .ok (.getfield 107, 3) := by decide +kernel
theorem dX9_count_73 : decode cX9_count 73 = .ok (.ireturn, 1) := by decide +kernel
theorem dX9_count_74 : decode cX9_count 74 = .ok (.aload_n 0, 1) := by decide +kernel
theorem dX9_count_75 : decode cX9_count 75 = .ok (.getfield 110, 3) := by decide +kernel
theorem dX9_count_78 : decode cX9_count 78 = .ok (.ireturn, 1) := by decide +kernel
theorem dX9_count_79 : decode cX9_count 79 = .ok (.aload_n 0, 1) := by decide +kernel
theorem dX9_count_80 : decode cX9_count 80 = .ok (.getfield 113, 3) := by decide +kernel
theorem dX9_count_83 : decode cX9_count 83 = .ok (.ireturn, 1) := by decide +kernel
theorem dX9_count_84 : decode cX9_count 84 = .ok (.aload_n 0, 1) := by decide +kernel
theorem dX9_count_85 : decode cX9_count 85 = .ok (.getfield 116, 3) := by decide +kernel
theorem dX9_count_88 : decode cX9_count 88 = .ok (.ireturn, 1) := by decide +kernel
theorem dX9_count_89 : decode cX9_count 89 = .ok (.aload_n 0, 1) := by decide +kernel
theorem dX9_count_90 : decode cX9_count 90 = .ok (.getfield 74, 3) := by decide +kernel
theorem dX9_count_93 : decode cX9_count 93 = .ok (.ireturn, 1) := by decide +kernel
theorem dX9_count_94 : decode cX9_count 94 = .ok (.iconst (-1), 1) := by decide +kernel
theorem dX9_count_95 : decode cX9_count 95 = .ok (.ireturn, 1) := by decide +kernel
end
section
def zrI (x y : Int32) : Int32 := x - x / y * y
def zrL (x y : Int64) : Int64 := x - x / y * y
theorem z_in {i : Int32} {n : Nat} (h : (decide (i < 0) || Nat.ble n i.toNatClampNeg) = false) : vp_in i n := by
  intro q
  rcases q with q | q
  · simp [q] at h
  · have := Nat.ble_eq_true_of_le q
    simp [this] at h
section ZR2
variable {p : Program} {l : Launch} {e : Env} {R : Room} {s : State} {m : MethodId} {args : Array Value} {below : List Frame} {meth : Method} {c : Code} {H : Heap} {locs : List Loc} {cells slots : Nat} {Q : State → Prop}
variable {pc : Nat} {ls : Array Slot} {rest : List Value}
theorem z_tc {f : Nat → Int32} {i : Int32} {k : Nat} (h : i.toNatClampNeg = k) (kk : W p l e R s m args below meth c H locs cells slots Q (F0 m pc ls (.int (f k) :: rest))) : W p l e R s m args below meth c H locs cells slots Q (F0 m pc ls (.int (f i.toNatClampNeg) :: rest)) := by
  rw [h]
  exact kk
end ZR2
end
section
/-! the cells of each kind of object, with all that it holds: h its addresses, X what it contains -/
def k0_0 (cI cB : ClassId) (h : Nat → Nat) (X : zMm) : Nat × va_E := (h 0, .inr (0, [.ref (h 1), .ref (h 2), .int (X 2 0)]))
def k0_1 (cI cB : ClassId) (h : Nat → Nat) (X : zMm) : Nat × va_E := (h 1, .inl (cI, 7, .inl (X 0)))
def k0_2 (cI cB : ClassId) (h : Nat → Nat) (X : zMm) : Nat × va_E := (h 2, .inl (cI, 7, .inl (X 1)))
def w0 (cI cB : ClassId) (h : Nat → Nat) (X : zMm) : va_W := [k0_0 cI cB h X, k0_1 cI cB h X, k0_2 cI cB h X]
def k1_0 (cI cB : ClassId) (h : Nat → Nat) (X : zMm) : Nat × va_E := (h 0, .inr (1, [.ref (h 1), .ref (h 2)]))
def k1_1 (cI cB : ClassId) (h : Nat → Nat) (X : zMm) : Nat × va_E := (h 1, .inl (cI, 7, .inl (X 0)))
def k1_2 (cI cB : ClassId) (h : Nat → Nat) (X : zMm) : Nat × va_E := (h 2, .inl (cI, 7, .inl (X 1)))
def w1 (cI cB : ClassId) (h : Nat → Nat) (X : zMm) : va_W := [k1_0 cI cB h X, k1_1 cI cB h X, k1_2 cI cB h X]
def k2a_0 (cI cB : ClassId) (h : Nat → Nat) (X : zMm) : Nat × va_E := (h 0, .inr (2, [.int (X 0 0), .ref (h 1), .ref (h 2), .int (X 3 0), .int (X 4 0)]))
def k2a_1 (cI cB : ClassId) (h : Nat → Nat) (X : zMm) : Nat × va_E := (h 1, .inl (cI, 56, .inl (X 1)))
def k2a_2 (cI cB : ClassId) (h : Nat → Nat) (X : zMm) : Nat × va_E := (h 2, .inl (cI, 56, .inl (X 2)))
def w2a (cI cB : ClassId) (h : Nat → Nat) (X : zMm) : va_W := [k2a_0 cI cB h X, k2a_1 cI cB h X, k2a_2 cI cB h X]
def k2b_0 (cI cB : ClassId) (h : Nat → Nat) (X : zMm) : Nat × va_E := (h 0, .inr (2, [.int (X 0 0), .ref (h 1), .ref (h 2), .int (X 3 0), .int (X 4 0)]))
def k2b_1 (cI cB : ClassId) (h : Nat → Nat) (X : zMm) : Nat × va_E := (h 1, .inl (cI, 14, .inl (X 1)))
def k2b_2 (cI cB : ClassId) (h : Nat → Nat) (X : zMm) : Nat × va_E := (h 2, .inl (cI, 14, .inl (X 2)))
def w2b (cI cB : ClassId) (h : Nat → Nat) (X : zMm) : va_W := [k2b_0 cI cB h X, k2b_1 cI cB h X, k2b_2 cI cB h X]
def k3_0 (cI cB : ClassId) (h : Nat → Nat) (X : zMm) : Nat × va_E := (h 0, .inr (3, [.ref (h 1), .int (X 1 0), .int (X 2 0), .ref (h 2), .ref (h 3), .int (X 5 0)]))
def k3_1 (cI cB : ClassId) (h : Nat → Nat) (X : zMm) : Nat × va_E := (h 1, .inl (cI, 7, .inl (X 0)))
def k3_2 (cI cB : ClassId) (h : Nat → Nat) (X : zMm) : Nat × va_E := (h 2, .inl (cI, 7, .inl (X 3)))
def k3_3 (cI cB : ClassId) (h : Nat → Nat) (X : zMm) : Nat × va_E := (h 3, .inl (cI, 7, .inl (X 4)))
def w3 (cI cB : ClassId) (h : Nat → Nat) (X : zMm) : va_W := [k3_0 cI cB h X, k3_1 cI cB h X, k3_2 cI cB h X, k3_3 cI cB h X]
def k4_0 (cI cB : ClassId) (h : Nat → Nat) (X : zMm) : Nat × va_E := (h 0, .inr (4, [.ref (h 1), .ref (h 2), .int (X 2 0)]))
def k4_1 (cI cB : ClassId) (h : Nat → Nat) (X : zMm) : Nat × va_E := (h 1, .inl (cI, 12, .inl (X 0)))
def k4_2 (cI cB : ClassId) (h : Nat → Nat) (X : zMm) : Nat × va_E := (h 2, .inl (cI, 12, .inl (X 1)))
def w4 (cI cB : ClassId) (h : Nat → Nat) (X : zMm) : va_W := [k4_0 cI cB h X, k4_1 cI cB h X, k4_2 cI cB h X]
def k5_0 (cI cB : ClassId) (h : Nat → Nat) (X : zMm) : Nat × va_E := (h 0, .inr (5, [.ref (h 1), .ref (h 2), .ref (h 3), .ref (h 4), .ref (h 5), .ref (h 6), .int (X 6 0), .int (X 7 0), .int (X 8 0), .int (X 9 0), .int (X 10 0), .int (X 11 0)]))
def k5_1 (cI cB : ClassId) (h : Nat → Nat) (X : zMm) : Nat × va_E := (h 1, .inl (cI, 6, .inl (X 0)))
def k5_2 (cI cB : ClassId) (h : Nat → Nat) (X : zMm) : Nat × va_E := (h 2, .inl (cI, 7, .inl (X 1)))
def k5_3 (cI cB : ClassId) (h : Nat → Nat) (X : zMm) : Nat × va_E := (h 3, .inl (cI, 7, .inl (X 2)))
def k5_4 (cI cB : ClassId) (h : Nat → Nat) (X : zMm) : Nat × va_E := (h 4, .inl (cI, 7, .inl (X 3)))
def k5_5 (cI cB : ClassId) (h : Nat → Nat) (X : zMm) : Nat × va_E := (h 5, .inl (cI, 10, .inl (X 4)))
def k5_6 (cI cB : ClassId) (h : Nat → Nat) (X : zMm) : Nat × va_E := (h 6, .inl (cI, 10, .inl (X 5)))
def w5 (cI cB : ClassId) (h : Nat → Nat) (X : zMm) : va_W := [k5_0 cI cB h X, k5_1 cI cB h X, k5_2 cI cB h X, k5_3 cI cB h X, k5_4 cI cB h X, k5_5 cI cB h X, k5_6 cI cB h X]
def k6_0 (cI cB : ClassId) (h : Nat → Nat) (X : zMm) : Nat × va_E := (h 0, .inr (6, [.ref (h 1), .ref (h 2), .ref (h 3), .int (X 3 0)]))
def k6_1 (cI cB : ClassId) (h : Nat → Nat) (X : zMm) : Nat × va_E := (h 1, .inl (cI, 10, .inl (X 0)))
def k6_2 (cI cB : ClassId) (h : Nat → Nat) (X : zMm) : Nat × va_E := (h 2, .inl (cI, 10, .inl (X 1)))
def k6_3 (cI cB : ClassId) (h : Nat → Nat) (X : zMm) : Nat × va_E := (h 3, .inl (cI, 10, .inl (X 2)))
def w6 (cI cB : ClassId) (h : Nat → Nat) (X : zMm) : va_W := [k6_0 cI cB h X, k6_1 cI cB h X, k6_2 cI cB h X, k6_3 cI cB h X]
def k7_0 (cI cB : ClassId) (h : Nat → Nat) (X : zMm) : Nat × va_E := (h 0, .inr (7, [.ref (h 1), .ref (h 2), .int (X 2 0)]))
def k7_1 (cI cB : ClassId) (h : Nat → Nat) (X : zMm) : Nat × va_E := (h 1, .inl (cB, 300, .inl (X 0)))
def k7_2 (cI cB : ClassId) (h : Nat → Nat) (X : zMm) : Nat × va_E := (h 2, .inl (cI, 3, .inl (X 1)))
def w7 (cI cB : ClassId) (h : Nat → Nat) (X : zMm) : va_W := [k7_0 cI cB h X, k7_1 cI cB h X, k7_2 cI cB h X]
def k8_0 (cI cB : ClassId) (h : Nat → Nat) (X : zMm) : Nat × va_E := (h 0, .inr (8, [.ref (h 1), .ref (h 4), .ref (h 7), .ref (h 10), .ref (h 13), .ref (h 17), .ref (h 20), .ref (h 24), .ref (h 27), .ref (h 28), .ref (h 29), .ref (h 30), .ref (h 31), .ref (h 38)]))
def k8_1 (cI cB : ClassId) (h : Nat → Nat) (X : zMm) : Nat × va_E := (h 1, .inr (7, [.ref (h 2), .ref (h 3), .int (X 2 0)]))
def k8_2 (cI cB : ClassId) (h : Nat → Nat) (X : zMm) : Nat × va_E := (h 2, .inl (cB, 300, .inl (X 0)))
def k8_3 (cI cB : ClassId) (h : Nat → Nat) (X : zMm) : Nat × va_E := (h 3, .inl (cI, 3, .inl (X 1)))
def k8_4 (cI cB : ClassId) (h : Nat → Nat) (X : zMm) : Nat × va_E := (h 4, .inr (1, [.ref (h 5), .ref (h 6)]))
def k8_5 (cI cB : ClassId) (h : Nat → Nat) (X : zMm) : Nat × va_E := (h 5, .inl (cI, 7, .inl (X 3)))
def k8_6 (cI cB : ClassId) (h : Nat → Nat) (X : zMm) : Nat × va_E := (h 6, .inl (cI, 7, .inl (X 4)))
def k8_7 (cI cB : ClassId) (h : Nat → Nat) (X : zMm) : Nat × va_E := (h 7, .inr (2, [.int (X 5 0), .ref (h 8), .ref (h 9), .int (X 8 0), .int (X 9 0)]))
def k8_8 (cI cB : ClassId) (h : Nat → Nat) (X : zMm) : Nat × va_E := (h 8, .inl (cI, 56, .inl (X 6)))
def k8_9 (cI cB : ClassId) (h : Nat → Nat) (X : zMm) : Nat × va_E := (h 9, .inl (cI, 56, .inl (X 7)))
def k8_10 (cI cB : ClassId) (h : Nat → Nat) (X : zMm) : Nat × va_E := (h 10, .inr (2, [.int (X 10 0), .ref (h 11), .ref (h 12), .int (X 13 0), .int (X 14 0)]))
def k8_11 (cI cB : ClassId) (h : Nat → Nat) (X : zMm) : Nat × va_E := (h 11, .inl (cI, 14, .inl (X 11)))
def k8_12 (cI cB : ClassId) (h : Nat → Nat) (X : zMm) : Nat × va_E := (h 12, .inl (cI, 14, .inl (X 12)))
def k8_13 (cI cB : ClassId) (h : Nat → Nat) (X : zMm) : Nat × va_E := (h 13, .inr (6, [.ref (h 14), .ref (h 15), .ref (h 16), .int (X 18 0)]))
def k8_14 (cI cB : ClassId) (h : Nat → Nat) (X : zMm) : Nat × va_E := (h 14, .inl (cI, 10, .inl (X 15)))
def k8_15 (cI cB : ClassId) (h : Nat → Nat) (X : zMm) : Nat × va_E := (h 15, .inl (cI, 10, .inl (X 16)))
def k8_16 (cI cB : ClassId) (h : Nat → Nat) (X : zMm) : Nat × va_E := (h 16, .inl (cI, 10, .inl (X 17)))
def k8_17 (cI cB : ClassId) (h : Nat → Nat) (X : zMm) : Nat × va_E := (h 17, .inr (4, [.ref (h 18), .ref (h 19), .int (X 21 0)]))
def k8_18 (cI cB : ClassId) (h : Nat → Nat) (X : zMm) : Nat × va_E := (h 18, .inl (cI, 12, .inl (X 19)))
def k8_19 (cI cB : ClassId) (h : Nat → Nat) (X : zMm) : Nat × va_E := (h 19, .inl (cI, 12, .inl (X 20)))
def k8_20 (cI cB : ClassId) (h : Nat → Nat) (X : zMm) : Nat × va_E := (h 20, .inr (3, [.ref (h 21), .int (X 23 0), .int (X 24 0), .ref (h 22), .ref (h 23), .int (X 27 0)]))
def k8_21 (cI cB : ClassId) (h : Nat → Nat) (X : zMm) : Nat × va_E := (h 21, .inl (cI, 7, .inl (X 22)))
def k8_22 (cI cB : ClassId) (h : Nat → Nat) (X : zMm) : Nat × va_E := (h 22, .inl (cI, 7, .inl (X 25)))
def k8_23 (cI cB : ClassId) (h : Nat → Nat) (X : zMm) : Nat × va_E := (h 23, .inl (cI, 7, .inl (X 26)))
def k8_24 (cI cB : ClassId) (h : Nat → Nat) (X : zMm) : Nat × va_E := (h 24, .inr (0, [.ref (h 25), .ref (h 26), .int (X 30 0)]))
def k8_25 (cI cB : ClassId) (h : Nat → Nat) (X : zMm) : Nat × va_E := (h 25, .inl (cI, 7, .inl (X 28)))
def k8_26 (cI cB : ClassId) (h : Nat → Nat) (X : zMm) : Nat × va_E := (h 26, .inl (cI, 7, .inl (X 29)))
def k8_27 (cI cB : ClassId) (h : Nat → Nat) (X : zMm) : Nat × va_E := (h 27, .inl (cI, 7, .inl (X 31)))
def k8_28 (cI cB : ClassId) (h : Nat → Nat) (X : zMm) : Nat × va_E := (h 28, .inl (cI, 7, .inl (X 32)))
def k8_29 (cI cB : ClassId) (h : Nat → Nat) (X : zMm) : Nat × va_E := (h 29, .inl (cI, 7, .inl (X 33)))
def k8_30 (cI cB : ClassId) (h : Nat → Nat) (X : zMm) : Nat × va_E := (h 30, .inl (cI, 7, .inl (X 34)))
def k8_31 (cI cB : ClassId) (h : Nat → Nat) (X : zMm) : Nat × va_E := (h 31, .inr (5, [.ref (h 32), .ref (h 33), .ref (h 34), .ref (h 35), .ref (h 36), .ref (h 37), .int (X 41 0), .int (X 42 0), .int (X 43 0), .int (X 44 0), .int (X 45 0), .int (X 46 0)]))
def k8_32 (cI cB : ClassId) (h : Nat → Nat) (X : zMm) : Nat × va_E := (h 32, .inl (cI, 6, .inl (X 35)))
def k8_33 (cI cB : ClassId) (h : Nat → Nat) (X : zMm) : Nat × va_E := (h 33, .inl (cI, 7, .inl (X 36)))
def k8_34 (cI cB : ClassId) (h : Nat → Nat) (X : zMm) : Nat × va_E := (h 34, .inl (cI, 7, .inl (X 37)))
def k8_35 (cI cB : ClassId) (h : Nat → Nat) (X : zMm) : Nat × va_E := (h 35, .inl (cI, 7, .inl (X 38)))
def k8_36 (cI cB : ClassId) (h : Nat → Nat) (X : zMm) : Nat × va_E := (h 36, .inl (cI, 10, .inl (X 39)))
def k8_37 (cI cB : ClassId) (h : Nat → Nat) (X : zMm) : Nat × va_E := (h 37, .inl (cI, 10, .inl (X 40)))
def k8_38 (cI cB : ClassId) (h : Nat → Nat) (X : zMm) : Nat × va_E := (h 38, .inr (5, [.ref (h 39), .ref (h 40), .ref (h 41), .ref (h 42), .ref (h 43), .ref (h 44), .int (X 53 0), .int (X 54 0), .int (X 55 0), .int (X 56 0), .int (X 57 0), .int (X 58 0)]))
def k8_39 (cI cB : ClassId) (h : Nat → Nat) (X : zMm) : Nat × va_E := (h 39, .inl (cI, 6, .inl (X 47)))
def k8_40 (cI cB : ClassId) (h : Nat → Nat) (X : zMm) : Nat × va_E := (h 40, .inl (cI, 7, .inl (X 48)))
def k8_41 (cI cB : ClassId) (h : Nat → Nat) (X : zMm) : Nat × va_E := (h 41, .inl (cI, 7, .inl (X 49)))
def k8_42 (cI cB : ClassId) (h : Nat → Nat) (X : zMm) : Nat × va_E := (h 42, .inl (cI, 7, .inl (X 50)))
def k8_43 (cI cB : ClassId) (h : Nat → Nat) (X : zMm) : Nat × va_E := (h 43, .inl (cI, 10, .inl (X 51)))
def k8_44 (cI cB : ClassId) (h : Nat → Nat) (X : zMm) : Nat × va_E := (h 44, .inl (cI, 10, .inl (X 52)))
def w8 (cI cB : ClassId) (h : Nat → Nat) (X : zMm) : va_W := [k8_0 cI cB h X, k8_1 cI cB h X, k8_2 cI cB h X, k8_3 cI cB h X, k8_4 cI cB h X, k8_5 cI cB h X, k8_6 cI cB h X, k8_7 cI cB h X, k8_8 cI cB h X, k8_9 cI cB h X, k8_10 cI cB h X, k8_11 cI cB h X, k8_12 cI cB h X, k8_13 cI cB h X, k8_14 cI cB h X, k8_15 cI cB h X, k8_16 cI cB h X, k8_17 cI cB h X, k8_18 cI cB h X, k8_19 cI cB h X, k8_20 cI cB h X, k8_21 cI cB h X, k8_22 cI cB h X, k8_23 cI cB h X, k8_24 cI cB h X, k8_25 cI cB h X, k8_26 cI cB h X, k8_27 cI cB h X, k8_28 cI cB h X, k8_29 cI cB h X, k8_30 cI cB h X, k8_31 cI cB h X, k8_32 cI cB h X, k8_33 cI cB h X, k8_34 cI cB h X, k8_35 cI cB h X, k8_36 cI cB h X, k8_37 cI cB h X, k8_38 cI cB h X, k8_39 cI cB h X, k8_40 cI cB h X, k8_41 cI cB h X, k8_42 cI cB h X, k8_43 cI cB h X, k8_44 cI cB h X]
def k9_0 (cI cB : ClassId) (h : Nat → Nat) (X : zMm) : Nat × va_E := (h 0, .inr (9, [.int (X 0 0), .ref (h 1), .int (X 2 0), .ref (h 2), .ref (h 3), .ref (h 4), .ref (h 5), .ref (h 6), .ref (h 7), .ref (h 8), .ref (h 9), .int (X 11 0), .int (X 12 0), .int (X 13 0), .ref (h 10), .int (X 15 0), .ref (h 11), .ref (h 12), .ref (h 13), .ref (h 14), .ref (h 15), .ref (h 16), .ref (h 17)]))
def k9_1 (cI cB : ClassId) (h : Nat → Nat) (X : zMm) : Nat × va_E := (h 1, .inl (cB, 300, .inl (X 1)))
def k9_2 (cI cB : ClassId) (h : Nat → Nat) (X : zMm) : Nat × va_E := (h 2, .inl (cI, 6, .inl (X 3)))
def k9_3 (cI cB : ClassId) (h : Nat → Nat) (X : zMm) : Nat × va_E := (h 3, .inl (cI, 2, .inl (X 4)))
def k9_4 (cI cB : ClassId) (h : Nat → Nat) (X : zMm) : Nat × va_E := (h 4, .inl (cI, 12, .inl (X 5)))
def k9_5 (cI cB : ClassId) (h : Nat → Nat) (X : zMm) : Nat × va_E := (h 5, .inl (cI, 2, .inl (X 6)))
def k9_6 (cI cB : ClassId) (h : Nat → Nat) (X : zMm) : Nat × va_E := (h 6, .inl (cI, 42, .inl (X 7)))
def k9_7 (cI cB : ClassId) (h : Nat → Nat) (X : zMm) : Nat × va_E := (h 7, .inl (cI, 2, .inl (X 8)))
def k9_8 (cI cB : ClassId) (h : Nat → Nat) (X : zMm) : Nat × va_E := (h 8, .inl (cI, 40, .inl (X 9)))
def k9_9 (cI cB : ClassId) (h : Nat → Nat) (X : zMm) : Nat × va_E := (h 9, .inl (cI, 154, .inl (X 10)))
def k9_10 (cI cB : ClassId) (h : Nat → Nat) (X : zMm) : Nat × va_E := (h 10, .inl (cI, 30, .inl (X 14)))
def k9_11 (cI cB : ClassId) (h : Nat → Nat) (X : zMm) : Nat × va_E := (h 11, .inl (cI, 12, .inl (X 16)))
def k9_12 (cI cB : ClassId) (h : Nat → Nat) (X : zMm) : Nat × va_E := (h 12, .inl (cI, 7, .inl (X 17)))
def k9_13 (cI cB : ClassId) (h : Nat → Nat) (X : zMm) : Nat × va_E := (h 13, .inl (cI, 7, .inl (X 18)))
def k9_14 (cI cB : ClassId) (h : Nat → Nat) (X : zMm) : Nat × va_E := (h 14, .inl (cI, 7, .inl (X 19)))
def k9_15 (cI cB : ClassId) (h : Nat → Nat) (X : zMm) : Nat × va_E := (h 15, .inl (cI, 7, .inl (X 20)))
def k9_16 (cI cB : ClassId) (h : Nat → Nat) (X : zMm) : Nat × va_E := (h 16, .inl (cI, 7, .inl (X 21)))
def k9_17 (cI cB : ClassId) (h : Nat → Nat) (X : zMm) : Nat × va_E := (h 17, .inl (cI, 3, .inl (X 22)))
def w9 (cI cB : ClassId) (h : Nat → Nat) (X : zMm) : va_W := [k9_0 cI cB h X, k9_1 cI cB h X, k9_2 cI cB h X, k9_3 cI cB h X, k9_4 cI cB h X, k9_5 cI cB h X, k9_6 cI cB h X, k9_7 cI cB h X, k9_8 cI cB h X, k9_9 cI cB h X, k9_10 cI cB h X, k9_11 cI cB h X, k9_12 cI cB h X, k9_13 cI cB h X, k9_14 cI cB h X, k9_15 cI cB h X, k9_16 cI cB h X, k9_17 cI cB h X]
def kA7_0 (cI cB : ClassId) (h : Nat → Nat) (X : zMm) : Nat × va_E := (h 0, .inl (cI, 7, .inl (X 0)))
def wA7 (cI cB : ClassId) (h : Nat → Nat) (X : zMm) : va_W := [kA7_0 cI cB h X]
def kA3_0 (cI cB : ClassId) (h : Nat → Nat) (X : zMm) : Nat × va_E := (h 0, .inl (cI, 3, .inl (X 0)))
def wA3 (cI cB : ClassId) (h : Nat → Nat) (X : zMm) : va_W := [kA3_0 cI cB h X]
end
section
def f_X5_clear (M : zMm) : Option (zMm) := zv (zs M 6 (fun _ => 0)) (fun (M_1 : zMm) => zv (zs M_1 7 (fun _ => 0)) (fun (M_2 : zMm) => zv (zs M_2 8 (fun _ => 0)) (fun (M_3 : zMm) => zv (zs M_3 9 (fun _ => 1)) (fun (M_4 : zMm) => zv (zs M_4 10 (fun _ => 0)) (fun (M_5 : zMm) => zv (zs M_5 11 (fun _ => 300)) (fun (M_6 : zMm) => some M_6))))))
abbrev ww_X5_clear : List Cond := Cond.code yX5_clear cX5_clear 1 none :: wG
theorem q_X5_clear : yX5_clear.cls = RX5 ∧ yX5_clear.cls ≠ "java/lang/invoke/MethodHandle" ∧ yX5_clear.cls ≠ "java/lang/invoke/VarHandle" ∧ (parseMethodDescriptor yX5_clear.desc).map (fun d => d.parameters.length) = some 0 := by decide +kernel
set_option maxHeartbeats 4000000 in
set_option maxRecDepth 100000 in
theorem c_X5_clear (l : Launch) (D : va_G) (cI cB : ClassId) (hM : Nat → Nat) (M : zMm) (M0 : zMm) (hf : f_X5_clear M = some M0) : zMv l yX5_clear ww_X5_clear ({ frames := 0, cells := 0, slots := 0, locals := 0 } : Room) D cI cB [.ref (hM 0)] (w5 cI cB hM M) (w5 cI cB hM M0) := by
  refine zofV (cc := cX5_clear) (maxL := 1) (ret := none) (by decide +kernel) rfl (Nat.le_of_ble_eq_true rfl) ?_
  intro p e s m below meth c A ls hx hb hml hr hown hts hlocks hK hP hD hS hA hl
  have hl : lv_has ls 1 [(0, .ref (hM 0))] := hl
  have hown : s.vm.findClass RX5 = some m.cls := hown
  have hG : ∀ w ∈ wG, w ∈ ww_X5_clear := fun w h => List.mem_cons_of_mem _ h
  have hi5 : ∀ w ∈ wsX50, w ∈ ww_X5_clear := fun w h => List.mem_cons_of_mem _ (z_inX5 w h)
  unfold f_X5_clear at hf
  refine lv_aload_n hx hb dX5_clear_0 rfl (lv_at hl 0 rfl) ?_
  refine lv_iconst (v := 0) hx hb dX5_clear_1 (by decide) ?_
  obtain ⟨M_1, e_M_1, hf⟩ := zv_some hf
  refine va_put (D := D) (ci := 5) (v := .int 0) (ty := .int) (C := RX5) (T := TX5) (N := 12) hx hb hts hi5 tyX5 tyX5_ok nmX5 hown hK hP hD hS 0 rfl rfl 6 (Nat.le_of_ble_eq_true rfl) (hts _ (List.mem_cons_of_mem _ wd_191)) (fun _ h9 => h9) rfl (by decide +kernel) rfl rfl (Nat.le_of_ble_eq_true rfl) dX5_clear_2 (fun H locs hP hD hS => ?_)
  have hP : va_P D vwCl (w5 cI cB hM (zs M 6 (fun _ => 0))) H := hP
  have hD : va_D A (w5 cI cB hM (zs M 6 (fun _ => 0))) := hD
  rw [← e_M_1] at hP hD
  refine lv_aload_n hx hb dX5_clear_5 rfl (lv_at hl 0 rfl) ?_
  refine lv_iconst (v := 0) hx hb dX5_clear_6 (by decide) ?_
  obtain ⟨M_2, e_M_2, hf⟩ := zv_some hf
  refine va_put (D := D) (ci := 5) (v := .int 0) (ty := .int) (C := RX5) (T := TX5) (N := 12) hx hb hts hi5 tyX5 tyX5_ok nmX5 hown hK hP hD hS 0 rfl rfl 7 (Nat.le_of_ble_eq_true rfl) (hts _ (List.mem_cons_of_mem _ wd_194)) (fun _ h9 => h9) rfl (by decide +kernel) rfl rfl (Nat.le_of_ble_eq_true rfl) dX5_clear_7 (fun H locs hP hD hS => ?_)
  have hP : va_P D vwCl (w5 cI cB hM (zs M_1 7 (fun _ => 0))) H := hP
  have hD : va_D A (w5 cI cB hM (zs M_1 7 (fun _ => 0))) := hD
  rw [← e_M_2] at hP hD
  refine lv_aload_n hx hb dX5_clear_10 rfl (lv_at hl 0 rfl) ?_
  refine lv_iconst (v := 0) hx hb dX5_clear_11 (by decide) ?_
  obtain ⟨M_3, e_M_3, hf⟩ := zv_some hf
  refine va_put (D := D) (ci := 5) (v := .int 0) (ty := .int) (C := RX5) (T := TX5) (N := 12) hx hb hts hi5 tyX5 tyX5_ok nmX5 hown hK hP hD hS 0 rfl rfl 8 (Nat.le_of_ble_eq_true rfl) (hts _ (List.mem_cons_of_mem _ wd_197)) (fun _ h9 => h9) rfl (by decide +kernel) rfl rfl (Nat.le_of_ble_eq_true rfl) dX5_clear_12 (fun H locs hP hD hS => ?_)
  have hP : va_P D vwCl (w5 cI cB hM (zs M_2 8 (fun _ => 0))) H := hP
  have hD : va_D A (w5 cI cB hM (zs M_2 8 (fun _ => 0))) := hD
  rw [← e_M_3] at hP hD
  refine lv_aload_n hx hb dX5_clear_15 rfl (lv_at hl 0 rfl) ?_
  refine lv_iconst (v := 1) hx hb dX5_clear_16 (by decide) ?_
  obtain ⟨M_4, e_M_4, hf⟩ := zv_some hf
  refine va_put (D := D) (ci := 5) (v := .int 1) (ty := .int) (C := RX5) (T := TX5) (N := 12) hx hb hts hi5 tyX5 tyX5_ok nmX5 hown hK hP hD hS 0 rfl rfl 9 (Nat.le_of_ble_eq_true rfl) (hts _ (List.mem_cons_of_mem _ wd_200)) (fun _ h9 => h9) rfl (by decide +kernel) rfl rfl (Nat.le_of_ble_eq_true rfl) dX5_clear_17 (fun H locs hP hD hS => ?_)
  have hP : va_P D vwCl (w5 cI cB hM (zs M_3 9 (fun _ => 1))) H := hP
  have hD : va_D A (w5 cI cB hM (zs M_3 9 (fun _ => 1))) := hD
  rw [← e_M_4] at hP hD
  refine lv_aload_n hx hb dX5_clear_20 rfl (lv_at hl 0 rfl) ?_
  refine lv_iconst (v := 0) hx hb dX5_clear_21 (by decide) ?_
  obtain ⟨M_5, e_M_5, hf⟩ := zv_some hf
  refine va_put (D := D) (ci := 5) (v := .int 0) (ty := .int) (C := RX5) (T := TX5) (N := 12) hx hb hts hi5 tyX5 tyX5_ok nmX5 hown hK hP hD hS 0 rfl rfl 10 (Nat.le_of_ble_eq_true rfl) (hts _ (List.mem_cons_of_mem _ wd_201)) (fun _ h9 => h9) rfl (by decide +kernel) rfl rfl (Nat.le_of_ble_eq_true rfl) dX5_clear_22 (fun H locs hP hD hS => ?_)
  have hP : va_P D vwCl (w5 cI cB hM (zs M_4 10 (fun _ => 0))) H := hP
  have hD : va_D A (w5 cI cB hM (zs M_4 10 (fun _ => 0))) := hD
  rw [← e_M_5] at hP hD
  refine lv_aload_n hx hb dX5_clear_25 rfl (lv_at hl 0 rfl) ?_
  refine lv_sipush (v := 300) hx hb dX5_clear_26 (by decide) ?_
  obtain ⟨M_6, e_M_6, hf⟩ := zv_some hf
  refine va_put (D := D) (ci := 5) (v := .int 300) (ty := .int) (C := RX5) (T := TX5) (N := 12) hx hb hts hi5 tyX5 tyX5_ok nmX5 hown hK hP hD hS 0 rfl rfl 11 (Nat.le_of_ble_eq_true rfl) (hts _ (List.mem_cons_of_mem _ wd_204)) (fun _ h9 => h9) rfl (by decide +kernel) rfl rfl (Nat.le_of_ble_eq_true rfl) dX5_clear_29 (fun H locs hP hD hS => ?_)
  have hP : va_P D vwCl (w5 cI cB hM (zs M_5 11 (fun _ => 300))) H := hP
  have hD : va_D A (w5 cI cB hM (zs M_5 11 (fun _ => 300))) := hD
  rw [← e_M_6] at hP hD
  cases hf
  exact zretV hx hb hr hlocks hK hP hD hS dX5_clear_32
def f_X5_hasTailor (M : zMm) (a1 : Int32) : Option (Int32) := if a1 < 0 then some (0 : Int32) else if (M 6 0) ≤ a1 then some (0 : Int32) else some (1 : Int32)
abbrev ww_X5_hasTailor : List Cond := Cond.code yX5_hasTailor cX5_hasTailor 2 (some .boolean) :: wG
theorem q_X5_hasTailor : yX5_hasTailor.cls = RX5 ∧ yX5_hasTailor.cls ≠ "java/lang/invoke/MethodHandle" ∧ yX5_hasTailor.cls ≠ "java/lang/invoke/VarHandle" ∧ (parseMethodDescriptor yX5_hasTailor.desc).map (fun d => d.parameters.length) = some 1 := by decide +kernel
set_option maxHeartbeats 4000000 in
set_option maxRecDepth 100000 in
theorem c_X5_hasTailor (l : Launch) (D : va_G) (cI cB : ClassId) (hM : Nat → Nat) (M : zMm) (a1 : Int32) (r0 : Int32) (hf : f_X5_hasTailor M a1 = some r0) : zMi l yX5_hasTailor ww_X5_hasTailor ({ frames := 0, cells := 0, slots := 0, locals := 0 } : Room) D cI cB [.ref (hM 0), .int a1] [k5_0 cI cB hM M] r0 [k5_0 cI cB hM M] := by
  refine zofI (cc := cX5_hasTailor) (maxL := 2) (ret := (some .boolean)) (by decide +kernel) rfl (Nat.le_of_ble_eq_true rfl) ?_
  intro p e s m below meth c A ls hx hb hml hr hown hts hlocks hK hP hD hS hA hl
  have hl : lv_has ls 2 [(0, .ref (hM 0)), (1, .int a1)] := hl
  have hown : s.vm.findClass RX5 = some m.cls := hown
  have hG : ∀ w ∈ wG, w ∈ ww_X5_hasTailor := fun w h => List.mem_cons_of_mem _ h
  have hi5 : ∀ w ∈ wsX50, w ∈ ww_X5_hasTailor := fun w h => List.mem_cons_of_mem _ (z_inX5 w h)
  unfold f_X5_hasTailor at hf
  refine lv_iload_n hx hb dX5_hasTailor_0 rfl (lv_at hl 1 rfl) ?_
  refine lv_if_lt (tgt := 16) hx hb dX5_hasTailor_1 (by decide) (fun c_1 => ?_) (fun c_1 => ?_)
  · replace hf := zit c_1 hf
    refine lv_iconst (v := 0) hx hb dX5_hasTailor_16 (by decide) ?_
    cases hf
    exact zretB hx hb hr hlocks rfl hK hP hD hS dX5_hasTailor_17
  · replace hf := zif c_1 hf
    refine lv_iload_n hx hb dX5_hasTailor_4 rfl (lv_at hl 1 rfl) ?_
    refine lv_aload_n hx hb dX5_hasTailor_5 rfl (lv_at hl 0 rfl) ?_
    refine va_get (D := D) (ci := 5) (v := .int (M 6 0)) (C := RX5) (T := TX5) (N := 12) hx hb hts hi5 hown hK hP 0 rfl rfl 6 (Nat.le_of_ble_eq_true rfl) (hts _ (List.mem_cons_of_mem _ wd_191)) (fun _ h9 => h9) rfl dX5_hasTailor_6 ?_
    refine lv_icmp_ge (tgt := 16) hx hb dX5_hasTailor_9 (by decide) (fun c_2 => ?_) (fun c_2 => ?_)
    · replace hf := zit c_2 hf
      refine lv_iconst (v := 0) hx hb dX5_hasTailor_16 (by decide) ?_
      cases hf
      exact zretB hx hb hr hlocks rfl hK hP hD hS dX5_hasTailor_17
    · replace hf := zif c_2 hf
      refine lv_iconst (v := 1) hx hb dX5_hasTailor_12 (by decide) ?_
      refine lv_goto (tgt := 17) hx hb dX5_hasTailor_13 (by decide) ?_
      cases hf
      exact zretB hx hb hr hlocks rfl hK hP hD hS dX5_hasTailor_17
def f_X5_hasPart (M : zMm) (a1 : Int32) : Option (Int32) := if a1 < 0 then some (0 : Int32) else if (M 7 0) ≤ a1 then some (0 : Int32) else some (1 : Int32)
abbrev ww_X5_hasPart : List Cond := Cond.code yX5_hasPart cX5_hasPart 2 (some .boolean) :: wG
theorem q_X5_hasPart : yX5_hasPart.cls = RX5 ∧ yX5_hasPart.cls ≠ "java/lang/invoke/MethodHandle" ∧ yX5_hasPart.cls ≠ "java/lang/invoke/VarHandle" ∧ (parseMethodDescriptor yX5_hasPart.desc).map (fun d => d.parameters.length) = some 1 := by decide +kernel
set_option maxHeartbeats 4000000 in
set_option maxRecDepth 100000 in
theorem c_X5_hasPart (l : Launch) (D : va_G) (cI cB : ClassId) (hM : Nat → Nat) (M : zMm) (a1 : Int32) (r0 : Int32) (hf : f_X5_hasPart M a1 = some r0) : zMi l yX5_hasPart ww_X5_hasPart ({ frames := 0, cells := 0, slots := 0, locals := 0 } : Room) D cI cB [.ref (hM 0), .int a1] [k5_0 cI cB hM M] r0 [k5_0 cI cB hM M] := by
  refine zofI (cc := cX5_hasPart) (maxL := 2) (ret := (some .boolean)) (by decide +kernel) rfl (Nat.le_of_ble_eq_true rfl) ?_
  intro p e s m below meth c A ls hx hb hml hr hown hts hlocks hK hP hD hS hA hl
  have hl : lv_has ls 2 [(0, .ref (hM 0)), (1, .int a1)] := hl
  have hown : s.vm.findClass RX5 = some m.cls := hown
  have hG : ∀ w ∈ wG, w ∈ ww_X5_hasPart := fun w h => List.mem_cons_of_mem _ h
  have hi5 : ∀ w ∈ wsX50, w ∈ ww_X5_hasPart := fun w h => List.mem_cons_of_mem _ (z_inX5 w h)
  unfold f_X5_hasPart at hf
  refine lv_iload_n hx hb dX5_hasPart_0 rfl (lv_at hl 1 rfl) ?_
  refine lv_if_lt (tgt := 16) hx hb dX5_hasPart_1 (by decide) (fun c_1 => ?_) (fun c_1 => ?_)
  · replace hf := zit c_1 hf
    refine lv_iconst (v := 0) hx hb dX5_hasPart_16 (by decide) ?_
    cases hf
    exact zretB hx hb hr hlocks rfl hK hP hD hS dX5_hasPart_17
  · replace hf := zif c_1 hf
    refine lv_iload_n hx hb dX5_hasPart_4 rfl (lv_at hl 1 rfl) ?_
    refine lv_aload_n hx hb dX5_hasPart_5 rfl (lv_at hl 0 rfl) ?_
    refine va_get (D := D) (ci := 5) (v := .int (M 7 0)) (C := RX5) (T := TX5) (N := 12) hx hb hts hi5 hown hK hP 0 rfl rfl 7 (Nat.le_of_ble_eq_true rfl) (hts _ (List.mem_cons_of_mem _ wd_194)) (fun _ h9 => h9) rfl dX5_hasPart_6 ?_
    refine lv_icmp_ge (tgt := 16) hx hb dX5_hasPart_9 (by decide) (fun c_2 => ?_) (fun c_2 => ?_)
    · replace hf := zit c_2 hf
      refine lv_iconst (v := 0) hx hb dX5_hasPart_16 (by decide) ?_
      cases hf
      exact zretB hx hb hr hlocks rfl hK hP hD hS dX5_hasPart_17
    · replace hf := zif c_2 hf
      refine lv_iconst (v := 1) hx hb dX5_hasPart_12 (by decide) ?_
      refine lv_goto (tgt := 17) hx hb dX5_hasPart_13 (by decide) ?_
      cases hf
      exact zretB hx hb hr hlocks rfl hK hP hD hS dX5_hasPart_17
def f_X5_hasSeam (M : zMm) (a1 : Int32) : Option (Int32) := if a1 < 0 then some (0 : Int32) else if (M 8 0) ≤ a1 then some (0 : Int32) else some (1 : Int32)
abbrev ww_X5_hasSeam : List Cond := Cond.code yX5_hasSeam cX5_hasSeam 2 (some .boolean) :: wG
theorem q_X5_hasSeam : yX5_hasSeam.cls = RX5 ∧ yX5_hasSeam.cls ≠ "java/lang/invoke/MethodHandle" ∧ yX5_hasSeam.cls ≠ "java/lang/invoke/VarHandle" ∧ (parseMethodDescriptor yX5_hasSeam.desc).map (fun d => d.parameters.length) = some 1 := by decide +kernel
set_option maxHeartbeats 4000000 in
set_option maxRecDepth 100000 in
theorem c_X5_hasSeam (l : Launch) (D : va_G) (cI cB : ClassId) (hM : Nat → Nat) (M : zMm) (a1 : Int32) (r0 : Int32) (hf : f_X5_hasSeam M a1 = some r0) : zMi l yX5_hasSeam ww_X5_hasSeam ({ frames := 0, cells := 0, slots := 0, locals := 0 } : Room) D cI cB [.ref (hM 0), .int a1] [k5_0 cI cB hM M] r0 [k5_0 cI cB hM M] := by
  refine zofI (cc := cX5_hasSeam) (maxL := 2) (ret := (some .boolean)) (by decide +kernel) rfl (Nat.le_of_ble_eq_true rfl) ?_
  intro p e s m below meth c A ls hx hb hml hr hown hts hlocks hK hP hD hS hA hl
  have hl : lv_has ls 2 [(0, .ref (hM 0)), (1, .int a1)] := hl
  have hown : s.vm.findClass RX5 = some m.cls := hown
  have hG : ∀ w ∈ wG, w ∈ ww_X5_hasSeam := fun w h => List.mem_cons_of_mem _ h
  have hi5 : ∀ w ∈ wsX50, w ∈ ww_X5_hasSeam := fun w h => List.mem_cons_of_mem _ (z_inX5 w h)
  unfold f_X5_hasSeam at hf
  refine lv_iload_n hx hb dX5_hasSeam_0 rfl (lv_at hl 1 rfl) ?_
  refine lv_if_lt (tgt := 16) hx hb dX5_hasSeam_1 (by decide) (fun c_1 => ?_) (fun c_1 => ?_)
  · replace hf := zit c_1 hf
    refine lv_iconst (v := 0) hx hb dX5_hasSeam_16 (by decide) ?_
    cases hf
    exact zretB hx hb hr hlocks rfl hK hP hD hS dX5_hasSeam_17
  · replace hf := zif c_1 hf
    refine lv_iload_n hx hb dX5_hasSeam_4 rfl (lv_at hl 1 rfl) ?_
    refine lv_aload_n hx hb dX5_hasSeam_5 rfl (lv_at hl 0 rfl) ?_
    refine va_get (D := D) (ci := 5) (v := .int (M 8 0)) (C := RX5) (T := TX5) (N := 12) hx hb hts hi5 hown hK hP 0 rfl rfl 8 (Nat.le_of_ble_eq_true rfl) (hts _ (List.mem_cons_of_mem _ wd_197)) (fun _ h9 => h9) rfl dX5_hasSeam_6 ?_
    refine lv_icmp_ge (tgt := 16) hx hb dX5_hasSeam_9 (by decide) (fun c_2 => ?_) (fun c_2 => ?_)
    · replace hf := zit c_2 hf
      refine lv_iconst (v := 0) hx hb dX5_hasSeam_16 (by decide) ?_
      cases hf
      exact zretB hx hb hr hlocks rfl hK hP hD hS dX5_hasSeam_17
    · replace hf := zif c_2 hf
      refine lv_iconst (v := 1) hx hb dX5_hasSeam_12 (by decide) ?_
      refine lv_goto (tgt := 17) hx hb dX5_hasSeam_13 (by decide) ?_
      cases hf
      exact zretB hx hb hr hlocks rfl hK hP hD hS dX5_hasSeam_17
def f_X5_takesTailor (M : zMm) (a1 : Int32) : Option (Int32 × zMm) := if (6 : Int32) ≤ (M 6 0) then some ((0 : Int32), M) else if a1 < 80 then some ((0 : Int32), M) else if a1 ≤ 120 then zw 6 M 0 (M 6 0) a1 (fun M_4 => zv (zs M_4 6 (fun _ => (M_4 6 0) + 1)) (fun (M_5 : zMm) => some ((1 : Int32), M_5))) else some ((0 : Int32), M)
abbrev ww_X5_takesTailor : List Cond := Cond.code yX5_takesTailor cX5_takesTailor 2 (some .boolean) :: wG
theorem q_X5_takesTailor : yX5_takesTailor.cls = RX5 ∧ yX5_takesTailor.cls ≠ "java/lang/invoke/MethodHandle" ∧ yX5_takesTailor.cls ≠ "java/lang/invoke/VarHandle" ∧ (parseMethodDescriptor yX5_takesTailor.desc).map (fun d => d.parameters.length) = some 1 := by decide +kernel
set_option maxHeartbeats 4000000 in
set_option maxRecDepth 100000 in
theorem c_X5_takesTailor (l : Launch) (D : va_G) (cI cB : ClassId) (hM : Nat → Nat) (M : zMm) (a1 : Int32) (r0 : Int32) (M0 : zMm) (hf : f_X5_takesTailor M a1 = some (r0, M0)) : zMi l yX5_takesTailor ww_X5_takesTailor ({ frames := 0, cells := 0, slots := 0, locals := 0 } : Room) D cI cB [.ref (hM 0), .int a1] (w5 cI cB hM M) r0 (w5 cI cB hM M0) := by
  refine zofI (cc := cX5_takesTailor) (maxL := 2) (ret := (some .boolean)) (by decide +kernel) rfl (Nat.le_of_ble_eq_true rfl) ?_
  intro p e s m below meth c A ls hx hb hml hr hown hts hlocks hK hP hD hS hA hl
  have hl : lv_has ls 2 [(0, .ref (hM 0)), (1, .int a1)] := hl
  have hown : s.vm.findClass RX5 = some m.cls := hown
  have hG : ∀ w ∈ wG, w ∈ ww_X5_takesTailor := fun w h => List.mem_cons_of_mem _ h
  have hi5 : ∀ w ∈ wsX50, w ∈ ww_X5_takesTailor := fun w h => List.mem_cons_of_mem _ (z_inX5 w h)
  unfold f_X5_takesTailor at hf
  refine lv_aload_n hx hb dX5_takesTailor_0 rfl (lv_at hl 0 rfl) ?_
  refine va_get (D := D) (ci := 5) (v := .int (M 6 0)) (C := RX5) (T := TX5) (N := 12) hx hb hts hi5 hown hK hP 0 rfl rfl 6 (Nat.le_of_ble_eq_true rfl) (hts _ (List.mem_cons_of_mem _ wd_191)) (fun _ h9 => h9) rfl dX5_takesTailor_1 ?_
  refine lv_bipush (v := 6) hx hb dX5_takesTailor_4 (by decide) ?_
  refine lv_icmp_ge (tgt := 21) hx hb dX5_takesTailor_6 (by decide) (fun c_1 => ?_) (fun c_1 => ?_)
  · replace hf := zit c_1 hf
    refine lv_iconst (v := 0) hx hb dX5_takesTailor_21 (by decide) ?_
    cases hf
    exact zretB hx hb hr hlocks rfl hK hP hD hS dX5_takesTailor_22
  · replace hf := zif c_1 hf
    refine lv_iload_n hx hb dX5_takesTailor_9 rfl (lv_at hl 1 rfl) ?_
    refine lv_bipush (v := 80) hx hb dX5_takesTailor_10 (by decide) ?_
    refine lv_icmp_lt (tgt := 21) hx hb dX5_takesTailor_12 (by decide) (fun c_2 => ?_) (fun c_2 => ?_)
    · replace hf := zit c_2 hf
      refine lv_iconst (v := 0) hx hb dX5_takesTailor_21 (by decide) ?_
      cases hf
      exact zretB hx hb hr hlocks rfl hK hP hD hS dX5_takesTailor_22
    · replace hf := zif c_2 hf
      refine lv_iload_n hx hb dX5_takesTailor_15 rfl (lv_at hl 1 rfl) ?_
      refine lv_bipush (v := 120) hx hb dX5_takesTailor_16 (by decide) ?_
      refine lv_icmp_le (tgt := 23) hx hb dX5_takesTailor_18 (by decide) (fun c_3 => ?_) (fun c_3 => ?_)
      · replace hf := zit c_3 hf
        refine lv_aload_n hx hb dX5_takesTailor_23 rfl (lv_at hl 0 rfl) ?_
        refine va_get (D := D) (ci := 5) (v := .ref (hM 1)) (C := RX5) (T := TX5) (N := 12) hx hb hts hi5 hown hK hP 0 rfl rfl 0 (Nat.le_of_ble_eq_true rfl) (hts _ (List.mem_cons_of_mem _ wd_178)) (fun _ h9 => h9) rfl dX5_takesTailor_24 ?_
        refine lv_aload_n hx hb dX5_takesTailor_27 rfl (lv_at hl 0 rfl) ?_
        refine va_get (D := D) (ci := 5) (v := .int (M 6 0)) (C := RX5) (T := TX5) (N := 12) hx hb hts hi5 hown hK hP 0 rfl rfl 6 (Nat.le_of_ble_eq_true rfl) (hts _ (List.mem_cons_of_mem _ wd_191)) (fun _ h9 => h9) rfl dX5_takesTailor_28 ?_
        refine lv_iload_n hx hb dX5_takesTailor_31 rfl (lv_at hl 1 rfl) ?_
        obtain ⟨i_M_4, M_4, e_M_4, hf⟩ := zw_some hf
        refine va_iast (n := 6) (f := M 0) (cA := cI) hx hb hK hP hD hS 1 0 rfl rfl i_M_4 dX5_takesTailor_32 (fun H locs hP hD hS => ?_)
        have hP : va_P D vwCl (w5 cI cB hM (zs M 0 (upd (M 0) (M 6 0).toNatClampNeg a1))) H := hP
        have hD : va_D A (w5 cI cB hM (zs M 0 (upd (M 0) (M 6 0).toNatClampNeg a1))) := hD
        rw [← e_M_4] at hP hD
        refine lv_aload_n hx hb dX5_takesTailor_33 rfl (lv_at hl 0 rfl) ?_
        refine lv_dup hx hb dX5_takesTailor_34 rfl ?_
        refine va_get (D := D) (ci := 5) (v := .int (M_4 6 0)) (C := RX5) (T := TX5) (N := 12) hx hb hts hi5 hown hK hP 0 rfl rfl 6 (Nat.le_of_ble_eq_true rfl) (hts _ (List.mem_cons_of_mem _ wd_191)) (fun _ h9 => h9) rfl dX5_takesTailor_35 ?_
        refine lv_iconst (v := 1) hx hb dX5_takesTailor_38 (by decide) ?_
        refine lv_iadd hx hb dX5_takesTailor_39 ?_
        obtain ⟨M_5, e_M_5, hf⟩ := zv_some hf
        refine va_put (D := D) (ci := 5) (v := .int ((M_4 6 0) + 1)) (ty := .int) (C := RX5) (T := TX5) (N := 12) hx hb hts hi5 tyX5 tyX5_ok nmX5 hown hK hP hD hS 0 rfl rfl 6 (Nat.le_of_ble_eq_true rfl) (hts _ (List.mem_cons_of_mem _ wd_191)) (fun _ h9 => h9) rfl (by decide +kernel) rfl rfl (Nat.le_of_ble_eq_true rfl) dX5_takesTailor_40 (fun H locs hP hD hS => ?_)
        have hP : va_P D vwCl (w5 cI cB hM (zs M_4 6 (fun _ => (M_4 6 0) + 1))) H := hP
        have hD : va_D A (w5 cI cB hM (zs M_4 6 (fun _ => (M_4 6 0) + 1))) := hD
        rw [← e_M_5] at hP hD
        refine lv_iconst (v := 1) hx hb dX5_takesTailor_43 (by decide) ?_
        cases hf
        exact zretB hx hb hr hlocks rfl hK hP hD hS dX5_takesTailor_44
      · replace hf := zif c_3 hf
        refine lv_iconst (v := 0) hx hb dX5_takesTailor_21 (by decide) ?_
        cases hf
        exact zretB hx hb hr hlocks rfl hK hP hD hS dX5_takesTailor_22
def f_X5_takesPart (M : zMm) (a1 : Int32) (a2 : Int32) (a3 : Int32) : Option (Int32 × zMm) := if (7 : Int32) ≤ (M 7 0) then some ((0 : Int32), M) else zb1 (f_X5_hasTailor M a1) (fun (r2 : Int32) => if r2 = 0 then some ((0 : Int32), M) else if a2 < 10 then some ((0 : Int32), M) else if (199 : Int32) < a2 then some ((0 : Int32), M) else if a3 ≤ 99 then zw 7 M 1 (M 7 0) a1 (fun M_8 => zw 7 M_8 2 (M_8 7 0) a2 (fun M_9 => zw 7 M_9 3 (M_9 7 0) a3 (fun M_10 => zv (zs M_10 7 (fun _ => (M_10 7 0) + 1)) (fun (M_11 : zMm) => some ((1 : Int32), M_11))))) else some ((0 : Int32), M))
abbrev ww_X5_takesPart : List Cond := Cond.code yX5_takesPart cX5_takesPart 4 (some .boolean) :: wG
theorem q_X5_takesPart : yX5_takesPart.cls = RX5 ∧ yX5_takesPart.cls ≠ "java/lang/invoke/MethodHandle" ∧ yX5_takesPart.cls ≠ "java/lang/invoke/VarHandle" ∧ (parseMethodDescriptor yX5_takesPart.desc).map (fun d => d.parameters.length) = some 3 := by decide +kernel
set_option maxHeartbeats 4000000 in
set_option maxRecDepth 100000 in
theorem c_X5_takesPart (l : Launch) (D : va_G) (cI cB : ClassId) (hM : Nat → Nat) (M : zMm) (a1 : Int32) (a2 : Int32) (a3 : Int32) (r0 : Int32) (M0 : zMm) (hf : f_X5_takesPart M a1 a2 a3 = some (r0, M0)) : zMi l yX5_takesPart ww_X5_takesPart ({ frames := 1, cells := 0, slots := 0, locals := 21 } : Room) D cI cB [.ref (hM 0), .int a1, .int a2, .int a3] (w5 cI cB hM M) r0 (w5 cI cB hM M0) := by
  refine zofI (cc := cX5_takesPart) (maxL := 4) (ret := (some .boolean)) (by decide +kernel) rfl (Nat.le_of_ble_eq_true rfl) ?_
  intro p e s m below meth c A ls hx hb hml hr hown hts hlocks hK hP hD hS hA hl
  have hl : lv_has ls 4 [(0, .ref (hM 0)), (1, .int a1), (2, .int a2), (3, .int a3)] := hl
  have hown : s.vm.findClass RX5 = some m.cls := hown
  have hG : ∀ w ∈ wG, w ∈ ww_X5_takesPart := fun w h => List.mem_cons_of_mem _ h
  have hi5 : ∀ w ∈ wsX50, w ∈ ww_X5_takesPart := fun w h => List.mem_cons_of_mem _ (z_inX5 w h)
  unfold f_X5_takesPart at hf
  refine lv_aload_n hx hb dX5_takesPart_0 rfl (lv_at hl 0 rfl) ?_
  refine va_get (D := D) (ci := 5) (v := .int (M 7 0)) (C := RX5) (T := TX5) (N := 12) hx hb hts hi5 hown hK hP 0 rfl rfl 7 (Nat.le_of_ble_eq_true rfl) (hts _ (List.mem_cons_of_mem _ wd_194)) (fun _ h9 => h9) rfl dX5_takesPart_1 ?_
  refine lv_bipush (v := 7) hx hb dX5_takesPart_4 (by decide) ?_
  refine lv_icmp_ge (tgt := 36) hx hb dX5_takesPart_6 (by decide) (fun c_1 => ?_) (fun c_1 => ?_)
  · replace hf := zit c_1 hf
    refine lv_iconst (v := 0) hx hb dX5_takesPart_36 (by decide) ?_
    cases hf
    exact zretB hx hb hr hlocks rfl hK hP hD hS dX5_takesPart_37
  · replace hf := zif c_1 hf
    refine lv_aload_n hx hb dX5_takesPart_9 rfl (lv_at hl 0 rfl) ?_
    refine lv_iload_n hx hb dX5_takesPart_10 rfl (lv_at hl 1 rfl) ?_
    obtain ⟨r2, hq3, hf⟩ := zb1_some hf
    refine zcallVi (ws2 := (w5 cI cB hM M)) (rest := []) ⟨hx, hb, hml, hown, hts⟩ (c_X5_hasTailor l D cI cB hM M a1 r2 hq3) (cwV 1 hts (z_gV hG wd_319 wd_320 wd_321 wd_10 wd_322) rfl rfl rfl q_X5_hasTailor ⟨Nat.le_of_ble_eq_true rfl, Nat.le_of_ble_eq_true rfl⟩) hK hP hD hS hA 5 rfl rfl rfl [0] [1, 2, 3, 4, 5, 6] rfl rfl rfl rfl rfl rfl rfl hl.1 (Nat.le_of_ble_eq_true rfl) dX5_takesPart_11 ⟨Nat.zero_le _, Nat.zero_le _⟩ rfl (fun H locs hP hD hS => ?_)
    refine lv_if_eq (tgt := 36) hx hb dX5_takesPart_14 (by decide) (fun c_4 => ?_) (fun c_4 => ?_)
    · replace hf := zit c_4 hf
      refine lv_iconst (v := 0) hx hb dX5_takesPart_36 (by decide) ?_
      cases hf
      exact zretB hx hb hr hlocks rfl hK hP hD hS dX5_takesPart_37
    · replace hf := zif c_4 hf
      refine lv_iload_n hx hb dX5_takesPart_17 rfl (lv_at hl 2 rfl) ?_
      refine lv_bipush (v := 10) hx hb dX5_takesPart_18 (by decide) ?_
      refine lv_icmp_lt (tgt := 36) hx hb dX5_takesPart_20 (by decide) (fun c_5 => ?_) (fun c_5 => ?_)
      · replace hf := zit c_5 hf
        refine lv_iconst (v := 0) hx hb dX5_takesPart_36 (by decide) ?_
        cases hf
        exact zretB hx hb hr hlocks rfl hK hP hD hS dX5_takesPart_37
      · replace hf := zif c_5 hf
        refine lv_iload_n hx hb dX5_takesPart_23 rfl (lv_at hl 2 rfl) ?_
        refine lv_sipush (v := 199) hx hb dX5_takesPart_24 (by decide) ?_
        refine lv_icmp_gt (tgt := 36) hx hb dX5_takesPart_27 (by decide) (fun c_6 => ?_) (fun c_6 => ?_)
        · replace hf := zit c_6 hf
          refine lv_iconst (v := 0) hx hb dX5_takesPart_36 (by decide) ?_
          cases hf
          exact zretB hx hb hr hlocks rfl hK hP hD hS dX5_takesPart_37
        · replace hf := zif c_6 hf
          refine lv_iload_n hx hb dX5_takesPart_30 rfl (lv_at hl 3 rfl) ?_
          refine lv_bipush (v := 99) hx hb dX5_takesPart_31 (by decide) ?_
          refine lv_icmp_le (tgt := 38) hx hb dX5_takesPart_33 (by decide) (fun c_7 => ?_) (fun c_7 => ?_)
          · replace hf := zit c_7 hf
            refine lv_aload_n hx hb dX5_takesPart_38 rfl (lv_at hl 0 rfl) ?_
            refine va_get (D := D) (ci := 5) (v := .ref (hM 2)) (C := RX5) (T := TX5) (N := 12) hx hb hts hi5 hown hK hP 0 rfl rfl 1 (Nat.le_of_ble_eq_true rfl) (hts _ (List.mem_cons_of_mem _ wd_179)) (fun _ h9 => h9) rfl dX5_takesPart_39 ?_
            refine lv_aload_n hx hb dX5_takesPart_42 rfl (lv_at hl 0 rfl) ?_
            refine va_get (D := D) (ci := 5) (v := .int (M 7 0)) (C := RX5) (T := TX5) (N := 12) hx hb hts hi5 hown hK hP 0 rfl rfl 7 (Nat.le_of_ble_eq_true rfl) (hts _ (List.mem_cons_of_mem _ wd_194)) (fun _ h9 => h9) rfl dX5_takesPart_43 ?_
            refine lv_iload_n hx hb dX5_takesPart_46 rfl (lv_at hl 1 rfl) ?_
            obtain ⟨i_M_8, M_8, e_M_8, hf⟩ := zw_some hf
            refine va_iast (n := 7) (f := M 1) (cA := cI) hx hb hK hP hD hS 2 0 rfl rfl i_M_8 dX5_takesPart_47 (fun H locs hP hD hS => ?_)
            have hP : va_P D vwCl (w5 cI cB hM (zs M 1 (upd (M 1) (M 7 0).toNatClampNeg a1))) H := hP
            have hD : va_D A (w5 cI cB hM (zs M 1 (upd (M 1) (M 7 0).toNatClampNeg a1))) := hD
            rw [← e_M_8] at hP hD
            refine lv_aload_n hx hb dX5_takesPart_48 rfl (lv_at hl 0 rfl) ?_
            refine va_get (D := D) (ci := 5) (v := .ref (hM 3)) (C := RX5) (T := TX5) (N := 12) hx hb hts hi5 hown hK hP 0 rfl rfl 2 (Nat.le_of_ble_eq_true rfl) (hts _ (List.mem_cons_of_mem _ wd_181)) (fun _ h9 => h9) rfl dX5_takesPart_49 ?_
            refine lv_aload_n hx hb dX5_takesPart_52 rfl (lv_at hl 0 rfl) ?_
            refine va_get (D := D) (ci := 5) (v := .int (M_8 7 0)) (C := RX5) (T := TX5) (N := 12) hx hb hts hi5 hown hK hP 0 rfl rfl 7 (Nat.le_of_ble_eq_true rfl) (hts _ (List.mem_cons_of_mem _ wd_194)) (fun _ h9 => h9) rfl dX5_takesPart_53 ?_
            refine lv_iload_n hx hb dX5_takesPart_56 rfl (lv_at hl 2 rfl) ?_
            obtain ⟨i_M_9, M_9, e_M_9, hf⟩ := zw_some hf
            refine va_iast (n := 7) (f := M_8 2) (cA := cI) hx hb hK hP hD hS 3 0 rfl rfl i_M_9 dX5_takesPart_57 (fun H locs hP hD hS => ?_)
            have hP : va_P D vwCl (w5 cI cB hM (zs M_8 2 (upd (M_8 2) (M_8 7 0).toNatClampNeg a2))) H := hP
            have hD : va_D A (w5 cI cB hM (zs M_8 2 (upd (M_8 2) (M_8 7 0).toNatClampNeg a2))) := hD
            rw [← e_M_9] at hP hD
            refine lv_aload_n hx hb dX5_takesPart_58 rfl (lv_at hl 0 rfl) ?_
            refine va_get (D := D) (ci := 5) (v := .ref (hM 4)) (C := RX5) (T := TX5) (N := 12) hx hb hts hi5 hown hK hP 0 rfl rfl 3 (Nat.le_of_ble_eq_true rfl) (hts _ (List.mem_cons_of_mem _ wd_183)) (fun _ h9 => h9) rfl dX5_takesPart_59 ?_
            refine lv_aload_n hx hb dX5_takesPart_62 rfl (lv_at hl 0 rfl) ?_
            refine va_get (D := D) (ci := 5) (v := .int (M_9 7 0)) (C := RX5) (T := TX5) (N := 12) hx hb hts hi5 hown hK hP 0 rfl rfl 7 (Nat.le_of_ble_eq_true rfl) (hts _ (List.mem_cons_of_mem _ wd_194)) (fun _ h9 => h9) rfl dX5_takesPart_63 ?_
            refine lv_iload_n hx hb dX5_takesPart_66 rfl (lv_at hl 3 rfl) ?_
            obtain ⟨i_M_10, M_10, e_M_10, hf⟩ := zw_some hf
            refine va_iast (n := 7) (f := M_9 3) (cA := cI) hx hb hK hP hD hS 4 0 rfl rfl i_M_10 dX5_takesPart_67 (fun H locs hP hD hS => ?_)
            have hP : va_P D vwCl (w5 cI cB hM (zs M_9 3 (upd (M_9 3) (M_9 7 0).toNatClampNeg a3))) H := hP
            have hD : va_D A (w5 cI cB hM (zs M_9 3 (upd (M_9 3) (M_9 7 0).toNatClampNeg a3))) := hD
            rw [← e_M_10] at hP hD
            refine lv_aload_n hx hb dX5_takesPart_68 rfl (lv_at hl 0 rfl) ?_
            refine lv_dup hx hb dX5_takesPart_69 rfl ?_
            refine va_get (D := D) (ci := 5) (v := .int (M_10 7 0)) (C := RX5) (T := TX5) (N := 12) hx hb hts hi5 hown hK hP 0 rfl rfl 7 (Nat.le_of_ble_eq_true rfl) (hts _ (List.mem_cons_of_mem _ wd_194)) (fun _ h9 => h9) rfl dX5_takesPart_70 ?_
            refine lv_iconst (v := 1) hx hb dX5_takesPart_73 (by decide) ?_
            refine lv_iadd hx hb dX5_takesPart_74 ?_
            obtain ⟨M_11, e_M_11, hf⟩ := zv_some hf
            refine va_put (D := D) (ci := 5) (v := .int ((M_10 7 0) + 1)) (ty := .int) (C := RX5) (T := TX5) (N := 12) hx hb hts hi5 tyX5 tyX5_ok nmX5 hown hK hP hD hS 0 rfl rfl 7 (Nat.le_of_ble_eq_true rfl) (hts _ (List.mem_cons_of_mem _ wd_194)) (fun _ h9 => h9) rfl (by decide +kernel) rfl rfl (Nat.le_of_ble_eq_true rfl) dX5_takesPart_75 (fun H locs hP hD hS => ?_)
            have hP : va_P D vwCl (w5 cI cB hM (zs M_10 7 (fun _ => (M_10 7 0) + 1))) H := hP
            have hD : va_D A (w5 cI cB hM (zs M_10 7 (fun _ => (M_10 7 0) + 1))) := hD
            rw [← e_M_11] at hP hD
            refine lv_iconst (v := 1) hx hb dX5_takesPart_78 (by decide) ?_
            cases hf
            exact zretB hx hb hr hlocks rfl hK hP hD hS dX5_takesPart_79
          · replace hf := zif c_7 hf
            refine lv_iconst (v := 0) hx hb dX5_takesPart_36 (by decide) ?_
            cases hf
            exact zretB hx hb hr hlocks rfl hK hP hD hS dX5_takesPart_37
def f_X5_takesSeam (M : zMm) (a1 : Int32) (a2 : Int32) : Option (Int32 × zMm) := if (10 : Int32) ≤ (M 8 0) then some ((0 : Int32), M) else zb1 (f_X5_hasPart M a1) (fun (r2 : Int32) => if r2 = 0 then some ((0 : Int32), M) else zb1 (f_X5_hasPart M a2) (fun (r5 : Int32) => if r5 = 0 then some ((0 : Int32), M) else if a1 = a2 then some ((0 : Int32), M) else zw 10 M 4 (M 8 0) a1 (fun M_9 => zw 10 M_9 5 (M_9 8 0) a2 (fun M_10 => zv (zs M_10 8 (fun _ => (M_10 8 0) + 1)) (fun (M_11 : zMm) => some ((1 : Int32), M_11))))))
abbrev ww_X5_takesSeam : List Cond := Cond.code yX5_takesSeam cX5_takesSeam 3 (some .boolean) :: wG
theorem q_X5_takesSeam : yX5_takesSeam.cls = RX5 ∧ yX5_takesSeam.cls ≠ "java/lang/invoke/MethodHandle" ∧ yX5_takesSeam.cls ≠ "java/lang/invoke/VarHandle" ∧ (parseMethodDescriptor yX5_takesSeam.desc).map (fun d => d.parameters.length) = some 2 := by decide +kernel
set_option maxHeartbeats 4000000 in
set_option maxRecDepth 100000 in
theorem c_X5_takesSeam (l : Launch) (D : va_G) (cI cB : ClassId) (hM : Nat → Nat) (M : zMm) (a1 : Int32) (a2 : Int32) (r0 : Int32) (M0 : zMm) (hf : f_X5_takesSeam M a1 a2 = some (r0, M0)) : zMi l yX5_takesSeam ww_X5_takesSeam ({ frames := 1, cells := 0, slots := 0, locals := 21 } : Room) D cI cB [.ref (hM 0), .int a1, .int a2] (w5 cI cB hM M) r0 (w5 cI cB hM M0) := by
  refine zofI (cc := cX5_takesSeam) (maxL := 3) (ret := (some .boolean)) (by decide +kernel) rfl (Nat.le_of_ble_eq_true rfl) ?_
  intro p e s m below meth c A ls hx hb hml hr hown hts hlocks hK hP hD hS hA hl
  have hl : lv_has ls 3 [(0, .ref (hM 0)), (1, .int a1), (2, .int a2)] := hl
  have hown : s.vm.findClass RX5 = some m.cls := hown
  have hG : ∀ w ∈ wG, w ∈ ww_X5_takesSeam := fun w h => List.mem_cons_of_mem _ h
  have hi5 : ∀ w ∈ wsX50, w ∈ ww_X5_takesSeam := fun w h => List.mem_cons_of_mem _ (z_inX5 w h)
  unfold f_X5_takesSeam at hf
  refine lv_aload_n hx hb dX5_takesSeam_0 rfl (lv_at hl 0 rfl) ?_
  refine va_get (D := D) (ci := 5) (v := .int (M 8 0)) (C := RX5) (T := TX5) (N := 12) hx hb hts hi5 hown hK hP 0 rfl rfl 8 (Nat.le_of_ble_eq_true rfl) (hts _ (List.mem_cons_of_mem _ wd_197)) (fun _ h9 => h9) rfl dX5_takesSeam_1 ?_
  refine lv_bipush (v := 10) hx hb dX5_takesSeam_4 (by decide) ?_
  refine lv_icmp_ge (tgt := 30) hx hb dX5_takesSeam_6 (by decide) (fun c_1 => ?_) (fun c_1 => ?_)
  · replace hf := zit c_1 hf
    refine lv_iconst (v := 0) hx hb dX5_takesSeam_30 (by decide) ?_
    cases hf
    exact zretB hx hb hr hlocks rfl hK hP hD hS dX5_takesSeam_31
  · replace hf := zif c_1 hf
    refine lv_aload_n hx hb dX5_takesSeam_9 rfl (lv_at hl 0 rfl) ?_
    refine lv_iload_n hx hb dX5_takesSeam_10 rfl (lv_at hl 1 rfl) ?_
    obtain ⟨r2, hq3, hf⟩ := zb1_some hf
    refine zcallVi (ws2 := (w5 cI cB hM M)) (rest := []) ⟨hx, hb, hml, hown, hts⟩ (c_X5_hasPart l D cI cB hM M a1 r2 hq3) (cwV 1 hts (z_gV hG wd_327 wd_328 wd_329 wd_10 wd_330) rfl rfl rfl q_X5_hasPart ⟨Nat.le_of_ble_eq_true rfl, Nat.le_of_ble_eq_true rfl⟩) hK hP hD hS hA 5 rfl rfl rfl [0] [1, 2, 3, 4, 5, 6] rfl rfl rfl rfl rfl rfl rfl hl.1 (Nat.le_of_ble_eq_true rfl) dX5_takesSeam_11 ⟨Nat.zero_le _, Nat.zero_le _⟩ rfl (fun H locs hP hD hS => ?_)
    refine lv_if_eq (tgt := 30) hx hb dX5_takesSeam_14 (by decide) (fun c_4 => ?_) (fun c_4 => ?_)
    · replace hf := zit c_4 hf
      refine lv_iconst (v := 0) hx hb dX5_takesSeam_30 (by decide) ?_
      cases hf
      exact zretB hx hb hr hlocks rfl hK hP hD hS dX5_takesSeam_31
    · replace hf := zif c_4 hf
      refine lv_aload_n hx hb dX5_takesSeam_17 rfl (lv_at hl 0 rfl) ?_
      refine lv_iload_n hx hb dX5_takesSeam_18 rfl (lv_at hl 2 rfl) ?_
      obtain ⟨r5, hq6, hf⟩ := zb1_some hf
      refine zcallVi (ws2 := (w5 cI cB hM M)) (rest := []) ⟨hx, hb, hml, hown, hts⟩ (c_X5_hasPart l D cI cB hM M a2 r5 hq6) (cwV 1 hts (z_gV hG wd_327 wd_328 wd_329 wd_10 wd_330) rfl rfl rfl q_X5_hasPart ⟨Nat.le_of_ble_eq_true rfl, Nat.le_of_ble_eq_true rfl⟩) hK hP hD hS hA 5 rfl rfl rfl [0] [1, 2, 3, 4, 5, 6] rfl rfl rfl rfl rfl rfl rfl hl.1 (Nat.le_of_ble_eq_true rfl) dX5_takesSeam_19 ⟨Nat.zero_le _, Nat.zero_le _⟩ rfl (fun H locs hP hD hS => ?_)
      refine lv_if_eq (tgt := 30) hx hb dX5_takesSeam_22 (by decide) (fun c_7 => ?_) (fun c_7 => ?_)
      · replace hf := zit c_7 hf
        refine lv_iconst (v := 0) hx hb dX5_takesSeam_30 (by decide) ?_
        cases hf
        exact zretB hx hb hr hlocks rfl hK hP hD hS dX5_takesSeam_31
      · replace hf := zif c_7 hf
        refine lv_iload_n hx hb dX5_takesSeam_25 rfl (lv_at hl 1 rfl) ?_
        refine lv_iload_n hx hb dX5_takesSeam_26 rfl (lv_at hl 2 rfl) ?_
        refine lv_icmp_ne (tgt := 32) hx hb dX5_takesSeam_27 (by decide) (fun c_8 => ?_) (fun c_8 => ?_)
        · replace hf := zif c_8 hf
          refine lv_aload_n hx hb dX5_takesSeam_32 rfl (lv_at hl 0 rfl) ?_
          refine va_get (D := D) (ci := 5) (v := .ref (hM 5)) (C := RX5) (T := TX5) (N := 12) hx hb hts hi5 hown hK hP 0 rfl rfl 4 (Nat.le_of_ble_eq_true rfl) (hts _ (List.mem_cons_of_mem _ wd_185)) (fun _ h9 => h9) rfl dX5_takesSeam_33 ?_
          refine lv_aload_n hx hb dX5_takesSeam_36 rfl (lv_at hl 0 rfl) ?_
          refine va_get (D := D) (ci := 5) (v := .int (M 8 0)) (C := RX5) (T := TX5) (N := 12) hx hb hts hi5 hown hK hP 0 rfl rfl 8 (Nat.le_of_ble_eq_true rfl) (hts _ (List.mem_cons_of_mem _ wd_197)) (fun _ h9 => h9) rfl dX5_takesSeam_37 ?_
          refine lv_iload_n hx hb dX5_takesSeam_40 rfl (lv_at hl 1 rfl) ?_
          obtain ⟨i_M_9, M_9, e_M_9, hf⟩ := zw_some hf
          refine va_iast (n := 10) (f := M 4) (cA := cI) hx hb hK hP hD hS 5 0 rfl rfl i_M_9 dX5_takesSeam_41 (fun H locs hP hD hS => ?_)
          have hP : va_P D vwCl (w5 cI cB hM (zs M 4 (upd (M 4) (M 8 0).toNatClampNeg a1))) H := hP
          have hD : va_D A (w5 cI cB hM (zs M 4 (upd (M 4) (M 8 0).toNatClampNeg a1))) := hD
          rw [← e_M_9] at hP hD
          refine lv_aload_n hx hb dX5_takesSeam_42 rfl (lv_at hl 0 rfl) ?_
          refine va_get (D := D) (ci := 5) (v := .ref (hM 6)) (C := RX5) (T := TX5) (N := 12) hx hb hts hi5 hown hK hP 0 rfl rfl 5 (Nat.le_of_ble_eq_true rfl) (hts _ (List.mem_cons_of_mem _ wd_188)) (fun _ h9 => h9) rfl dX5_takesSeam_43 ?_
          refine lv_aload_n hx hb dX5_takesSeam_46 rfl (lv_at hl 0 rfl) ?_
          refine va_get (D := D) (ci := 5) (v := .int (M_9 8 0)) (C := RX5) (T := TX5) (N := 12) hx hb hts hi5 hown hK hP 0 rfl rfl 8 (Nat.le_of_ble_eq_true rfl) (hts _ (List.mem_cons_of_mem _ wd_197)) (fun _ h9 => h9) rfl dX5_takesSeam_47 ?_
          refine lv_iload_n hx hb dX5_takesSeam_50 rfl (lv_at hl 2 rfl) ?_
          obtain ⟨i_M_10, M_10, e_M_10, hf⟩ := zw_some hf
          refine va_iast (n := 10) (f := M_9 5) (cA := cI) hx hb hK hP hD hS 6 0 rfl rfl i_M_10 dX5_takesSeam_51 (fun H locs hP hD hS => ?_)
          have hP : va_P D vwCl (w5 cI cB hM (zs M_9 5 (upd (M_9 5) (M_9 8 0).toNatClampNeg a2))) H := hP
          have hD : va_D A (w5 cI cB hM (zs M_9 5 (upd (M_9 5) (M_9 8 0).toNatClampNeg a2))) := hD
          rw [← e_M_10] at hP hD
          refine lv_aload_n hx hb dX5_takesSeam_52 rfl (lv_at hl 0 rfl) ?_
          refine lv_dup hx hb dX5_takesSeam_53 rfl ?_
          refine va_get (D := D) (ci := 5) (v := .int (M_10 8 0)) (C := RX5) (T := TX5) (N := 12) hx hb hts hi5 hown hK hP 0 rfl rfl 8 (Nat.le_of_ble_eq_true rfl) (hts _ (List.mem_cons_of_mem _ wd_197)) (fun _ h9 => h9) rfl dX5_takesSeam_54 ?_
          refine lv_iconst (v := 1) hx hb dX5_takesSeam_57 (by decide) ?_
          refine lv_iadd hx hb dX5_takesSeam_58 ?_
          obtain ⟨M_11, e_M_11, hf⟩ := zv_some hf
          refine va_put (D := D) (ci := 5) (v := .int ((M_10 8 0) + 1)) (ty := .int) (C := RX5) (T := TX5) (N := 12) hx hb hts hi5 tyX5 tyX5_ok nmX5 hown hK hP hD hS 0 rfl rfl 8 (Nat.le_of_ble_eq_true rfl) (hts _ (List.mem_cons_of_mem _ wd_197)) (fun _ h9 => h9) rfl (by decide +kernel) rfl rfl (Nat.le_of_ble_eq_true rfl) dX5_takesSeam_59 (fun H locs hP hD hS => ?_)
          have hP : va_P D vwCl (w5 cI cB hM (zs M_10 8 (fun _ => (M_10 8 0) + 1))) H := hP
          have hD : va_D A (w5 cI cB hM (zs M_10 8 (fun _ => (M_10 8 0) + 1))) := hD
          rw [← e_M_11] at hP hD
          refine lv_iconst (v := 1) hx hb dX5_takesSeam_62 (by decide) ?_
          cases hf
          exact zretB hx hb hr hlocks rfl hK hP hD hS dX5_takesSeam_63
        · replace hf := zit c_8 hf
          refine lv_iconst (v := 0) hx hb dX5_takesSeam_30 (by decide) ?_
          cases hf
          exact zretB hx hb hr hlocks rfl hK hP hD hS dX5_takesSeam_31
def f_X5_takesGap (M : zMm) (a1 : Int32) : Option (Int32 × zMm) := if a1 ≤ 20 then zv (zs M 9 (fun _ => a1)) (fun (M_2 : zMm) => some ((1 : Int32), M_2)) else some ((0 : Int32), M)
abbrev ww_X5_takesGap : List Cond := Cond.code yX5_takesGap cX5_takesGap 2 (some .boolean) :: wG
theorem q_X5_takesGap : yX5_takesGap.cls = RX5 ∧ yX5_takesGap.cls ≠ "java/lang/invoke/MethodHandle" ∧ yX5_takesGap.cls ≠ "java/lang/invoke/VarHandle" ∧ (parseMethodDescriptor yX5_takesGap.desc).map (fun d => d.parameters.length) = some 1 := by decide +kernel
set_option maxHeartbeats 4000000 in
set_option maxRecDepth 100000 in
theorem c_X5_takesGap (l : Launch) (D : va_G) (cI cB : ClassId) (hM : Nat → Nat) (M : zMm) (a1 : Int32) (r0 : Int32) (M0 : zMm) (hf : f_X5_takesGap M a1 = some (r0, M0)) : zMi l yX5_takesGap ww_X5_takesGap ({ frames := 0, cells := 0, slots := 0, locals := 0 } : Room) D cI cB [.ref (hM 0), .int a1] (w5 cI cB hM M) r0 (w5 cI cB hM M0) := by
  refine zofI (cc := cX5_takesGap) (maxL := 2) (ret := (some .boolean)) (by decide +kernel) rfl (Nat.le_of_ble_eq_true rfl) ?_
  intro p e s m below meth c A ls hx hb hml hr hown hts hlocks hK hP hD hS hA hl
  have hl : lv_has ls 2 [(0, .ref (hM 0)), (1, .int a1)] := hl
  have hown : s.vm.findClass RX5 = some m.cls := hown
  have hG : ∀ w ∈ wG, w ∈ ww_X5_takesGap := fun w h => List.mem_cons_of_mem _ h
  have hi5 : ∀ w ∈ wsX50, w ∈ ww_X5_takesGap := fun w h => List.mem_cons_of_mem _ (z_inX5 w h)
  unfold f_X5_takesGap at hf
  refine lv_iload_n hx hb dX5_takesGap_0 rfl (lv_at hl 1 rfl) ?_
  refine lv_bipush (v := 20) hx hb dX5_takesGap_1 (by decide) ?_
  refine lv_icmp_le (tgt := 8) hx hb dX5_takesGap_3 (by decide) (fun c_1 => ?_) (fun c_1 => ?_)
  · replace hf := zit c_1 hf
    refine lv_aload_n hx hb dX5_takesGap_8 rfl (lv_at hl 0 rfl) ?_
    refine lv_iload_n hx hb dX5_takesGap_9 rfl (lv_at hl 1 rfl) ?_
    obtain ⟨M_2, e_M_2, hf⟩ := zv_some hf
    refine va_put (D := D) (ci := 5) (v := .int a1) (ty := .int) (C := RX5) (T := TX5) (N := 12) hx hb hts hi5 tyX5 tyX5_ok nmX5 hown hK hP hD hS 0 rfl rfl 9 (Nat.le_of_ble_eq_true rfl) (hts _ (List.mem_cons_of_mem _ wd_200)) (fun _ h9 => h9) rfl (by decide +kernel) rfl rfl (Nat.le_of_ble_eq_true rfl) dX5_takesGap_10 (fun H locs hP hD hS => ?_)
    have hP : va_P D vwCl (w5 cI cB hM (zs M 9 (fun _ => a1))) H := hP
    have hD : va_D A (w5 cI cB hM (zs M 9 (fun _ => a1))) := hD
    rw [← e_M_2] at hP hD
    refine lv_iconst (v := 1) hx hb dX5_takesGap_13 (by decide) ?_
    cases hf
    exact zretB hx hb hr hlocks rfl hK hP hD hS dX5_takesGap_14
  · replace hf := zif c_1 hf
    refine lv_iconst (v := 0) hx hb dX5_takesGap_6 (by decide) ?_
    cases hf
    exact zretB hx hb hr hlocks rfl hK hP hD hS dX5_takesGap_7
def f_X5_takesBoy (M : zMm) (a1 : Int32) : Option (Int32 × zMm) := if a1 < 1000 then zv (zs M 10 (fun _ => a1)) (fun (M_2 : zMm) => some ((1 : Int32), M_2)) else some ((0 : Int32), M)
abbrev ww_X5_takesBoy : List Cond := Cond.code yX5_takesBoy cX5_takesBoy 2 (some .boolean) :: wG
theorem q_X5_takesBoy : yX5_takesBoy.cls = RX5 ∧ yX5_takesBoy.cls ≠ "java/lang/invoke/MethodHandle" ∧ yX5_takesBoy.cls ≠ "java/lang/invoke/VarHandle" ∧ (parseMethodDescriptor yX5_takesBoy.desc).map (fun d => d.parameters.length) = some 1 := by decide +kernel
set_option maxHeartbeats 4000000 in
set_option maxRecDepth 100000 in
theorem c_X5_takesBoy (l : Launch) (D : va_G) (cI cB : ClassId) (hM : Nat → Nat) (M : zMm) (a1 : Int32) (r0 : Int32) (M0 : zMm) (hf : f_X5_takesBoy M a1 = some (r0, M0)) : zMi l yX5_takesBoy ww_X5_takesBoy ({ frames := 0, cells := 0, slots := 0, locals := 0 } : Room) D cI cB [.ref (hM 0), .int a1] (w5 cI cB hM M) r0 (w5 cI cB hM M0) := by
  refine zofI (cc := cX5_takesBoy) (maxL := 2) (ret := (some .boolean)) (by decide +kernel) rfl (Nat.le_of_ble_eq_true rfl) ?_
  intro p e s m below meth c A ls hx hb hml hr hown hts hlocks hK hP hD hS hA hl
  have hl : lv_has ls 2 [(0, .ref (hM 0)), (1, .int a1)] := hl
  have hown : s.vm.findClass RX5 = some m.cls := hown
  have hG : ∀ w ∈ wG, w ∈ ww_X5_takesBoy := fun w h => List.mem_cons_of_mem _ h
  have hi5 : ∀ w ∈ wsX50, w ∈ ww_X5_takesBoy := fun w h => List.mem_cons_of_mem _ (z_inX5 w h)
  unfold f_X5_takesBoy at hf
  refine lv_iload_n hx hb dX5_takesBoy_0 rfl (lv_at hl 1 rfl) ?_
  refine lv_sipush (v := 1000) hx hb dX5_takesBoy_1 (by decide) ?_
  refine lv_icmp_lt (tgt := 9) hx hb dX5_takesBoy_4 (by decide) (fun c_1 => ?_) (fun c_1 => ?_)
  · replace hf := zit c_1 hf
    refine lv_aload_n hx hb dX5_takesBoy_9 rfl (lv_at hl 0 rfl) ?_
    refine lv_iload_n hx hb dX5_takesBoy_10 rfl (lv_at hl 1 rfl) ?_
    obtain ⟨M_2, e_M_2, hf⟩ := zv_some hf
    refine va_put (D := D) (ci := 5) (v := .int a1) (ty := .int) (C := RX5) (T := TX5) (N := 12) hx hb hts hi5 tyX5 tyX5_ok nmX5 hown hK hP hD hS 0 rfl rfl 10 (Nat.le_of_ble_eq_true rfl) (hts _ (List.mem_cons_of_mem _ wd_201)) (fun _ h9 => h9) rfl (by decide +kernel) rfl rfl (Nat.le_of_ble_eq_true rfl) dX5_takesBoy_11 (fun H locs hP hD hS => ?_)
    have hP : va_P D vwCl (w5 cI cB hM (zs M 10 (fun _ => a1))) H := hP
    have hD : va_D A (w5 cI cB hM (zs M 10 (fun _ => a1))) := hD
    rw [← e_M_2] at hP hD
    refine lv_iconst (v := 1) hx hb dX5_takesBoy_14 (by decide) ?_
    cases hf
    exact zretB hx hb hr hlocks rfl hK hP hD hS dX5_takesBoy_15
  · replace hf := zif c_1 hf
    refine lv_iconst (v := 0) hx hb dX5_takesBoy_7 (by decide) ?_
    cases hf
    exact zretB hx hb hr hlocks rfl hK hP hD hS dX5_takesBoy_8
def f_X5_takesBolt (M : zMm) (a1 : Int32) : Option (Int32 × zMm) := if (1 : Int32) ≤ a1 then zv (zs M 11 (fun _ => a1)) (fun (M_2 : zMm) => some ((1 : Int32), M_2)) else some ((0 : Int32), M)
abbrev ww_X5_takesBolt : List Cond := Cond.code yX5_takesBolt cX5_takesBolt 2 (some .boolean) :: wG
theorem q_X5_takesBolt : yX5_takesBolt.cls = RX5 ∧ yX5_takesBolt.cls ≠ "java/lang/invoke/MethodHandle" ∧ yX5_takesBolt.cls ≠ "java/lang/invoke/VarHandle" ∧ (parseMethodDescriptor yX5_takesBolt.desc).map (fun d => d.parameters.length) = some 1 := by decide +kernel
set_option maxHeartbeats 4000000 in
set_option maxRecDepth 100000 in
theorem c_X5_takesBolt (l : Launch) (D : va_G) (cI cB : ClassId) (hM : Nat → Nat) (M : zMm) (a1 : Int32) (r0 : Int32) (M0 : zMm) (hf : f_X5_takesBolt M a1 = some (r0, M0)) : zMi l yX5_takesBolt ww_X5_takesBolt ({ frames := 0, cells := 0, slots := 0, locals := 0 } : Room) D cI cB [.ref (hM 0), .int a1] (w5 cI cB hM M) r0 (w5 cI cB hM M0) := by
  refine zofI (cc := cX5_takesBolt) (maxL := 2) (ret := (some .boolean)) (by decide +kernel) rfl (Nat.le_of_ble_eq_true rfl) ?_
  intro p e s m below meth c A ls hx hb hml hr hown hts hlocks hK hP hD hS hA hl
  have hl : lv_has ls 2 [(0, .ref (hM 0)), (1, .int a1)] := hl
  have hown : s.vm.findClass RX5 = some m.cls := hown
  have hG : ∀ w ∈ wG, w ∈ ww_X5_takesBolt := fun w h => List.mem_cons_of_mem _ h
  have hi5 : ∀ w ∈ wsX50, w ∈ ww_X5_takesBolt := fun w h => List.mem_cons_of_mem _ (z_inX5 w h)
  unfold f_X5_takesBolt at hf
  refine lv_iload_n hx hb dX5_takesBolt_0 rfl (lv_at hl 1 rfl) ?_
  refine lv_iconst (v := 1) hx hb dX5_takesBolt_1 (by decide) ?_
  refine lv_icmp_ge (tgt := 7) hx hb dX5_takesBolt_2 (by decide) (fun c_1 => ?_) (fun c_1 => ?_)
  · replace hf := zit c_1 hf
    refine lv_aload_n hx hb dX5_takesBolt_7 rfl (lv_at hl 0 rfl) ?_
    refine lv_iload_n hx hb dX5_takesBolt_8 rfl (lv_at hl 1 rfl) ?_
    obtain ⟨M_2, e_M_2, hf⟩ := zv_some hf
    refine va_put (D := D) (ci := 5) (v := .int a1) (ty := .int) (C := RX5) (T := TX5) (N := 12) hx hb hts hi5 tyX5 tyX5_ok nmX5 hown hK hP hD hS 0 rfl rfl 11 (Nat.le_of_ble_eq_true rfl) (hts _ (List.mem_cons_of_mem _ wd_204)) (fun _ h9 => h9) rfl (by decide +kernel) rfl rfl (Nat.le_of_ble_eq_true rfl) dX5_takesBolt_9 (fun H locs hP hD hS => ?_)
    have hP : va_P D vwCl (w5 cI cB hM (zs M 11 (fun _ => a1))) H := hP
    have hD : va_D A (w5 cI cB hM (zs M 11 (fun _ => a1))) := hD
    rw [← e_M_2] at hP hD
    refine lv_iconst (v := 1) hx hb dX5_takesBolt_12 (by decide) ?_
    cases hf
    exact zretB hx hb hr hlocks rfl hK hP hD hS dX5_takesBolt_13
  · replace hf := zif c_1 hf
    refine lv_iconst (v := 0) hx hb dX5_takesBolt_5 (by decide) ?_
    cases hf
    exact zretB hx hb hr hlocks rfl hK hP hD hS dX5_takesBolt_6
def f_X5_takes (M : zMm) (P2 : zMm) (a1 : Int32) : Option (Int32 × zMm) := if a1 = 99 then zb2 (f_X5_takesBolt M (P2 0 0)) (fun (r2 : Int32) (M_3 : zMm) => zo r2 (some (r2, M_3))) else if a1 = 103 then zb2 (f_X5_takesGap M (P2 0 0)) (fun (r6 : Int32) (M_7 : zMm) => zo r6 (some (r6, M_7))) else if a1 = 112 then zb2 (f_X5_takesPart M (P2 0 0) (P2 0 1) (P2 0 2)) (fun (r10 : Int32) (M_11 : zMm) => zo r10 (some (r10, M_11))) else if a1 = 115 then zb2 (f_X5_takesSeam M (P2 0 0) (P2 0 1)) (fun (r14 : Int32) (M_15 : zMm) => zo r14 (some (r14, M_15))) else if a1 = 116 then zb2 (f_X5_takesTailor M (P2 0 0)) (fun (r18 : Int32) (M_19 : zMm) => zo r18 (some (r18, M_19))) else if a1 = 122 then zb2 (f_X5_takesBoy M (P2 0 0)) (fun (r22 : Int32) (M_23 : zMm) => zo r22 (some (r22, M_23))) else some ((0 : Int32), M)
abbrev ww_X5_takes : List Cond := Cond.code yX5_takes cX5_takes 3 (some .boolean) :: wG
theorem q_X5_takes : yX5_takes.cls = RX5 ∧ yX5_takes.cls ≠ "java/lang/invoke/MethodHandle" ∧ yX5_takes.cls ≠ "java/lang/invoke/VarHandle" ∧ (parseMethodDescriptor yX5_takes.desc).map (fun d => d.parameters.length) = some 2 := by decide +kernel
set_option maxHeartbeats 4000000 in
set_option maxRecDepth 100000 in
theorem c_X5_takes (l : Launch) (D : va_G) (cI cB : ClassId) (hM : Nat → Nat) (hP2 : Nat → Nat) (M : zMm) (P2 : zMm) (a1 : Int32) (r0 : Int32) (M0 : zMm) (hf : f_X5_takes M P2 a1 = some (r0, M0)) : zMi l yX5_takes ww_X5_takes ({ frames := 2, cells := 0, slots := 0, locals := 44 } : Room) D cI cB [.ref (hM 0), .int a1, .ref (hP2 0)] (w5 cI cB hM M ++ wA3 cI cB hP2 P2) r0 (w5 cI cB hM M0 ++ wA3 cI cB hP2 P2) := by
  refine zofI (cc := cX5_takes) (maxL := 3) (ret := (some .boolean)) (by decide +kernel) rfl (Nat.le_of_ble_eq_true rfl) ?_
  intro p e s m below meth c A ls hx hb hml hr hown hts hlocks hK hP hD hS hA hl
  have hl : lv_has ls 3 [(0, .ref (hM 0)), (1, .int a1), (2, .ref (hP2 0))] := hl
  have hown : s.vm.findClass RX5 = some m.cls := hown
  have hG : ∀ w ∈ wG, w ∈ ww_X5_takes := fun w h => List.mem_cons_of_mem _ h
  unfold f_X5_takes at hf
  refine lv_iload_n hx hb dX5_takes_0 rfl (lv_at hl 1 rfl) ?_
  by_cases c_1 : a1 = 99
  · replace hf := zit c_1 hf
    refine zt c_1.symm ?_
    refine lv_lookup (off := 108) (tgt := 109) hx hb dX5_takes_1 (by decide) (by decide) (by decide) ?_
    refine lv_aload_n hx hb dX5_takes_109 rfl (lv_at hl 0 rfl) ?_
    refine lv_aload_n hx hb dX5_takes_110 rfl (lv_at hl 2 rfl) ?_
    refine lv_iconst (v := 0) hx hb dX5_takes_111 (by decide) ?_
    refine va_iald (n := 3) (f := P2 0) (cA := cI) hx hb hK hP 7 0 rfl rfl (z_in (by decide)) dX5_takes_112 ?_
    refine z_tc (k := 0) (by decide) ?_
    obtain ⟨r2, M_3, hq4, hf⟩ := zb2_some hf
    refine zcallVi (ws2 := (w5 cI cB hM M_3 ++ wA3 cI cB hP2 P2)) (rest := []) ⟨hx, hb, hml, hown, hts⟩ (c_X5_takesBolt l D cI cB hM M (P2 0 0) r2 M_3 hq4) (cwV 1 hts (z_gV hG wd_339 wd_341 wd_s8 wd_10 wd_342) rfl rfl rfl q_X5_takesBolt ⟨Nat.le_of_ble_eq_true rfl, Nat.le_of_ble_eq_true rfl⟩) hK hP hD hS hA 5 rfl rfl rfl [0, 1, 2, 3, 4, 5, 6] [7] rfl rfl rfl rfl rfl rfl rfl hl.1 (Nat.le_of_ble_eq_true rfl) dX5_takes_113 ⟨Nat.zero_le _, Nat.zero_le _⟩ rfl (fun H locs hP hD hS => ?_)
    obtain ⟨hn, hf⟩ := zo_some hf
    cases hf
    exact zretB hx hb hr hlocks hn hK hP hD hS dX5_takes_116
  · replace hf := zif c_1 hf
    by_cases c_5 : a1 = 103
    · replace hf := zit c_5 hf
      refine zt c_5.symm ?_
      refine lv_lookup (off := 92) (tgt := 93) hx hb dX5_takes_1 (by decide) (by decide) (by decide) ?_
      refine lv_aload_n hx hb dX5_takes_93 rfl (lv_at hl 0 rfl) ?_
      refine lv_aload_n hx hb dX5_takes_94 rfl (lv_at hl 2 rfl) ?_
      refine lv_iconst (v := 0) hx hb dX5_takes_95 (by decide) ?_
      refine va_iald (n := 3) (f := P2 0) (cA := cI) hx hb hK hP 7 0 rfl rfl (z_in (by decide)) dX5_takes_96 ?_
      refine z_tc (k := 0) (by decide) ?_
      obtain ⟨r6, M_7, hq8, hf⟩ := zb2_some hf
      refine zcallVi (ws2 := (w5 cI cB hM M_7 ++ wA3 cI cB hP2 P2)) (rest := []) ⟨hx, hb, hml, hown, hts⟩ (c_X5_takesGap l D cI cB hM M (P2 0 0) r6 M_7 hq8) (cwV 1 hts (z_gV hG wd_331 wd_333 wd_s6 wd_10 wd_334) rfl rfl rfl q_X5_takesGap ⟨Nat.le_of_ble_eq_true rfl, Nat.le_of_ble_eq_true rfl⟩) hK hP hD hS hA 5 rfl rfl rfl [0, 1, 2, 3, 4, 5, 6] [7] rfl rfl rfl rfl rfl rfl rfl hl.1 (Nat.le_of_ble_eq_true rfl) dX5_takes_97 ⟨Nat.zero_le _, Nat.zero_le _⟩ rfl (fun H locs hP hD hS => ?_)
      obtain ⟨hn, hf⟩ := zo_some hf
      cases hf
      exact zretB hx hb hr hlocks hn hK hP hD hS dX5_takes_100
    · replace hf := zif c_5 hf
      by_cases c_9 : a1 = 112
      · replace hf := zit c_9 hf
        refine zt c_9.symm ?_
        refine lv_lookup (off := 67) (tgt := 68) hx hb dX5_takes_1 (by decide) (by decide) (by decide) ?_
        refine lv_aload_n hx hb dX5_takes_68 rfl (lv_at hl 0 rfl) ?_
        refine lv_aload_n hx hb dX5_takes_69 rfl (lv_at hl 2 rfl) ?_
        refine lv_iconst (v := 0) hx hb dX5_takes_70 (by decide) ?_
        refine va_iald (n := 3) (f := P2 0) (cA := cI) hx hb hK hP 7 0 rfl rfl (z_in (by decide)) dX5_takes_71 ?_
        refine z_tc (k := 0) (by decide) ?_
        refine lv_aload_n hx hb dX5_takes_72 rfl (lv_at hl 2 rfl) ?_
        refine lv_iconst (v := 1) hx hb dX5_takes_73 (by decide) ?_
        refine va_iald (n := 3) (f := P2 0) (cA := cI) hx hb hK hP 7 0 rfl rfl (z_in (by decide)) dX5_takes_74 ?_
        refine z_tc (k := 1) (by decide) ?_
        refine lv_aload_n hx hb dX5_takes_75 rfl (lv_at hl 2 rfl) ?_
        refine lv_iconst (v := 2) hx hb dX5_takes_76 (by decide) ?_
        refine va_iald (n := 3) (f := P2 0) (cA := cI) hx hb hK hP 7 0 rfl rfl (z_in (by decide)) dX5_takes_77 ?_
        refine z_tc (k := 2) (by decide) ?_
        obtain ⟨r10, M_11, hq12, hf⟩ := zb2_some hf
        refine zcallVi (ws2 := (w5 cI cB hM M_11 ++ wA3 cI cB hP2 P2)) (rest := []) ⟨hx, hb, hml, hown, hts⟩ (c_X5_takesPart l D cI cB hM M (P2 0 0) (P2 0 1) (P2 0 2) r10 M_11 hq12) (cwV 3 hts (z_gV hG wd_315 wd_317 wd_s4 wd_10 wd_318) rfl rfl rfl q_X5_takesPart ⟨Nat.le_of_ble_eq_true rfl, Nat.le_of_ble_eq_true rfl⟩) hK hP hD hS hA 5 rfl rfl rfl [0, 1, 2, 3, 4, 5, 6] [7] rfl rfl rfl rfl rfl rfl rfl hl.1 (Nat.le_of_ble_eq_true rfl) dX5_takes_78 ⟨Nat.zero_le _, Nat.zero_le _⟩ rfl (fun H locs hP hD hS => ?_)
        obtain ⟨hn, hf⟩ := zo_some hf
        cases hf
        exact zretB hx hb hr hlocks hn hK hP hD hS dX5_takes_81
      · replace hf := zif c_9 hf
        by_cases c_13 : a1 = 115
        · replace hf := zit c_13 hf
          refine zt c_13.symm ?_
          refine lv_lookup (off := 81) (tgt := 82) hx hb dX5_takes_1 (by decide) (by decide) (by decide) ?_
          refine lv_aload_n hx hb dX5_takes_82 rfl (lv_at hl 0 rfl) ?_
          refine lv_aload_n hx hb dX5_takes_83 rfl (lv_at hl 2 rfl) ?_
          refine lv_iconst (v := 0) hx hb dX5_takes_84 (by decide) ?_
          refine va_iald (n := 3) (f := P2 0) (cA := cI) hx hb hK hP 7 0 rfl rfl (z_in (by decide)) dX5_takes_85 ?_
          refine z_tc (k := 0) (by decide) ?_
          refine lv_aload_n hx hb dX5_takes_86 rfl (lv_at hl 2 rfl) ?_
          refine lv_iconst (v := 1) hx hb dX5_takes_87 (by decide) ?_
          refine va_iald (n := 3) (f := P2 0) (cA := cI) hx hb hK hP 7 0 rfl rfl (z_in (by decide)) dX5_takes_88 ?_
          refine z_tc (k := 1) (by decide) ?_
          obtain ⟨r14, M_15, hq16, hf⟩ := zb2_some hf
          refine zcallVi (ws2 := (w5 cI cB hM M_15 ++ wA3 cI cB hP2 P2)) (rest := []) ⟨hx, hb, hml, hown, hts⟩ (c_X5_takesSeam l D cI cB hM M (P2 0 0) (P2 0 1) r14 M_15 hq16) (cwV 2 hts (z_gV hG wd_323 wd_325 wd_s5 wd_10 wd_326) rfl rfl rfl q_X5_takesSeam ⟨Nat.le_of_ble_eq_true rfl, Nat.le_of_ble_eq_true rfl⟩) hK hP hD hS hA 5 rfl rfl rfl [0, 1, 2, 3, 4, 5, 6] [7] rfl rfl rfl rfl rfl rfl rfl hl.1 (Nat.le_of_ble_eq_true rfl) dX5_takes_89 ⟨Nat.zero_le _, Nat.zero_le _⟩ rfl (fun H locs hP hD hS => ?_)
          obtain ⟨hn, hf⟩ := zo_some hf
          cases hf
          exact zretB hx hb hr hlocks hn hK hP hD hS dX5_takes_92
        · replace hf := zif c_13 hf
          by_cases c_17 : a1 = 116
          · replace hf := zit c_17 hf
            refine zt c_17.symm ?_
            refine lv_lookup (off := 59) (tgt := 60) hx hb dX5_takes_1 (by decide) (by decide) (by decide) ?_
            refine lv_aload_n hx hb dX5_takes_60 rfl (lv_at hl 0 rfl) ?_
            refine lv_aload_n hx hb dX5_takes_61 rfl (lv_at hl 2 rfl) ?_
            refine lv_iconst (v := 0) hx hb dX5_takes_62 (by decide) ?_
            refine va_iald (n := 3) (f := P2 0) (cA := cI) hx hb hK hP 7 0 rfl rfl (z_in (by decide)) dX5_takes_63 ?_
            refine z_tc (k := 0) (by decide) ?_
            obtain ⟨r18, M_19, hq20, hf⟩ := zb2_some hf
            refine zcallVi (ws2 := (w5 cI cB hM M_19 ++ wA3 cI cB hP2 P2)) (rest := []) ⟨hx, hb, hml, hown, hts⟩ (c_X5_takesTailor l D cI cB hM M (P2 0 0) r18 M_19 hq20) (cwV 1 hts (z_gV hG wd_311 wd_313 wd_s3 wd_10 wd_314) rfl rfl rfl q_X5_takesTailor ⟨Nat.le_of_ble_eq_true rfl, Nat.le_of_ble_eq_true rfl⟩) hK hP hD hS hA 5 rfl rfl rfl [0, 1, 2, 3, 4, 5, 6] [7] rfl rfl rfl rfl rfl rfl rfl hl.1 (Nat.le_of_ble_eq_true rfl) dX5_takes_64 ⟨Nat.zero_le _, Nat.zero_le _⟩ rfl (fun H locs hP hD hS => ?_)
            obtain ⟨hn, hf⟩ := zo_some hf
            cases hf
            exact zretB hx hb hr hlocks hn hK hP hD hS dX5_takes_67
          · replace hf := zif c_17 hf
            by_cases c_21 : a1 = 122
            · replace hf := zit c_21 hf
              refine zt c_21.symm ?_
              refine lv_lookup (off := 100) (tgt := 101) hx hb dX5_takes_1 (by decide) (by decide) (by decide) ?_
              refine lv_aload_n hx hb dX5_takes_101 rfl (lv_at hl 0 rfl) ?_
              refine lv_aload_n hx hb dX5_takes_102 rfl (lv_at hl 2 rfl) ?_
              refine lv_iconst (v := 0) hx hb dX5_takes_103 (by decide) ?_
              refine va_iald (n := 3) (f := P2 0) (cA := cI) hx hb hK hP 7 0 rfl rfl (z_in (by decide)) dX5_takes_104 ?_
              refine z_tc (k := 0) (by decide) ?_
              obtain ⟨r22, M_23, hq24, hf⟩ := zb2_some hf
              refine zcallVi (ws2 := (w5 cI cB hM M_23 ++ wA3 cI cB hP2 P2)) (rest := []) ⟨hx, hb, hml, hown, hts⟩ (c_X5_takesBoy l D cI cB hM M (P2 0 0) r22 M_23 hq24) (cwV 1 hts (z_gV hG wd_335 wd_337 wd_s7 wd_10 wd_338) rfl rfl rfl q_X5_takesBoy ⟨Nat.le_of_ble_eq_true rfl, Nat.le_of_ble_eq_true rfl⟩) hK hP hD hS hA 5 rfl rfl rfl [0, 1, 2, 3, 4, 5, 6] [7] rfl rfl rfl rfl rfl rfl rfl hl.1 (Nat.le_of_ble_eq_true rfl) dX5_takes_105 ⟨Nat.zero_le _, Nat.zero_le _⟩ rfl (fun H locs hP hD hS => ?_)
              obtain ⟨hn, hf⟩ := zo_some hf
              cases hf
              exact zretB hx hb hr hlocks hn hK hP hD hS dX5_takes_108
            · replace hf := zif c_21 hf
              refine lv_lookup (off := 116) (tgt := 117) hx hb dX5_takes_1 (by decide) ((lv_osw (k := 99) (a := 99) c_1 (by decide)).trans ((lv_osw (k := 103) (a := 103) c_5 (by decide)).trans ((lv_osw (k := 112) (a := 112) c_9 (by decide)).trans ((lv_osw (k := 115) (a := 115) c_13 (by decide)).trans ((lv_osw (k := 116) (a := 116) c_17 (by decide)).trans ((lv_osw (k := 122) (a := 122) c_21 (by decide)).trans (rfl))))))) (by decide) ?_
              refine lv_iconst (v := 0) hx hb dX5_takes_117 (by decide) ?_
              cases hf
              exact zretB hx hb hr hlocks rfl hK hP hD hS dX5_takes_118
def f_X5_slip (a0 : Int32) (a1 : Int32) (a2 : Int32) : Option (Int32) := zv (((((7919 : Int64) * (a2.toInt64)) + ((6151 : Int64) * (a0.toInt64))) + ((3571 : Int64) * (a1.toInt64))) + 1) (fun (x1 : Int64) => zv (if (5 : Int32) < a1 then (5 : Int32) else a1) (fun (x2 : Int32) => zv (if (0 : Int32) < x2 then x2 else (0 : Int32)) (fun (x3 : Int32) => zdL ((((2 : Int32) * x3) + 1).toInt64) (some (((zrL (zrL (x1 * x1) (65521 : Int64)) ((((2 : Int32) * x3) + 1).toInt64)).toInt32) - x3)))))
abbrev ww_X5_slip : List Cond := Cond.code yX5_slip cX5_slip 6 (some .int) :: wG
theorem q_X5_slip : yX5_slip.cls ≠ "java/lang/invoke/MethodHandle" ∧ yX5_slip.cls ≠ "java/lang/invoke/VarHandle" ∧ (parseMethodDescriptor yX5_slip.desc).map (fun d => d.parameters.length) = some 3 := by decide +kernel
set_option maxHeartbeats 4000000 in
set_option maxRecDepth 100000 in
theorem c_X5_slip (l : Launch) (D : va_G) (cI cB : ClassId)  (a0 : Int32) (a1 : Int32) (a2 : Int32) (r0 : Int32) (hf : f_X5_slip a0 a1 a2 = some r0) : zMi l yX5_slip ww_X5_slip ({ frames := 1, cells := 0, slots := 0, locals := 21 } : Room) D cI cB [.int a0, .int a1, .int a2] [] r0 [] := by
  refine zofI (cc := cX5_slip) (maxL := 6) (ret := (some .int)) (by decide +kernel) rfl (Nat.le_of_ble_eq_true rfl) ?_
  intro p e s m below meth c A ls hx hb hml hr hown hts hlocks hK hP hD hS hA hl
  have hl : lv_has ls 6 [(0, .int a0), (1, .int a1), (2, .int a2)] := hl
  have hown : s.vm.findClass RX5 = some m.cls := hown
  have hG : ∀ w ∈ wG, w ∈ ww_X5_slip := fun w h => List.mem_cons_of_mem _ h
  unfold f_X5_slip at hf
  refine lv_ldc2 (v := 7919) hx hb hown (hts _ (List.mem_cons_of_mem _ wd_423)) dX5_slip_0 ?_
  refine lv_iload_n hx hb dX5_slip_3 rfl (lv_at hl 2 rfl) ?_
  refine lv_i2l hx hb dX5_slip_4 rfl ?_
  refine lv_lmul hx hb dX5_slip_5 ?_
  refine lv_ldc2 (v := 6151) hx hb hown (hts _ (List.mem_cons_of_mem _ wd_424)) dX5_slip_6 ?_
  refine lv_iload_n hx hb dX5_slip_9 rfl (lv_at hl 0 rfl) ?_
  refine lv_i2l hx hb dX5_slip_10 rfl ?_
  refine lv_lmul hx hb dX5_slip_11 ?_
  refine lv_ladd hx hb dX5_slip_12 ?_
  refine lv_ldc2 (v := 3571) hx hb hown (hts _ (List.mem_cons_of_mem _ wd_425)) dX5_slip_13 ?_
  refine lv_iload_n hx hb dX5_slip_16 rfl (lv_at hl 1 rfl) ?_
  refine lv_i2l hx hb dX5_slip_17 rfl ?_
  refine lv_lmul hx hb dX5_slip_18 ?_
  refine lv_ladd hx hb dX5_slip_19 ?_
  refine lv_lconst (v := 1) hx hb dX5_slip_20 (by decide) ?_
  refine lv_ladd hx hb dX5_slip_21 ?_
  obtain ⟨x1, e_x1, hf⟩ := zv_some hf
  refine ztL e_x1 ?_
  refine lv_lstore_n (lv' := [(3, .long x1), (0, .int a0), (1, .int a1), (2, .int a2)]) hx hb dX5_slip_22 rfl hl (by decide) rfl (fun ls hl => ?_)
  refine lv_iconst (v := 0) hx hb dX5_slip_23 (by decide) ?_
  refine lv_iload_n hx hb dX5_slip_24 rfl (lv_at hl 2 rfl) ?_
  refine lv_iconst (v := 5) hx hb dX5_slip_25 (by decide) ?_
  obtain ⟨x2, e_x2, hf⟩ := zv_some hf
  refine va_mmin hx hb (hml.trans hl.1.symm) hown (hts _ (List.mem_cons_of_mem _ wd_426)) (hts _ (List.mem_cons_of_mem _ wd_427)) (hts _ (List.mem_cons_of_mem _ wd_5)) (hts _ (List.mem_cons_of_mem _ wd_428)) (Nat.le_of_ble_eq_true rfl) (Nat.le_of_ble_eq_true rfl) (Nat.zero_le _) (Nat.zero_le _) dX5_slip_26 ?_
  refine zt e_x2 ?_
  obtain ⟨x3, e_x3, hf⟩ := zv_some hf
  refine va_mmax hx hb (hml.trans hl.1.symm) hown (hts _ (List.mem_cons_of_mem _ wd_429)) (hts _ (List.mem_cons_of_mem _ wd_70)) (hts _ (List.mem_cons_of_mem _ wd_5)) (hts _ (List.mem_cons_of_mem _ wd_71)) (Nat.le_of_ble_eq_true rfl) (Nat.le_of_ble_eq_true rfl) (Nat.zero_le _) (Nat.zero_le _) dX5_slip_29 ?_
  refine zt e_x3 ?_
  refine lv_istore (lv' := [(5, .int x3), (3, .long x1), (0, .int a0), (1, .int a1), (2, .int a2)]) hx hb dX5_slip_32 hl (by decide) rfl (fun ls hl => ?_)
  refine lv_lload_n hx hb dX5_slip_34 rfl (lv_at hl 1 rfl) ?_
  refine lv_lload_n hx hb dX5_slip_35 rfl (lv_at hl 1 rfl) ?_
  refine lv_lmul hx hb dX5_slip_36 ?_
  refine lv_ldc2 (v := 65521) hx hb hown (hts _ (List.mem_cons_of_mem _ wd_430)) dX5_slip_37 ?_
  refine lv_lrem hx hb dX5_slip_40 (by decide) ?_
  refine ztL (y := zrL (x1 * x1) (65521 : Int64)) rfl ?_
  refine lv_iconst (v := 2) hx hb dX5_slip_41 (by decide) ?_
  refine lv_iload hx hb dX5_slip_42 (lv_at hl 0 rfl) ?_
  refine lv_imul hx hb dX5_slip_44 ?_
  refine lv_iconst (v := 1) hx hb dX5_slip_45 (by decide) ?_
  refine lv_iadd hx hb dX5_slip_46 ?_
  refine lv_i2l hx hb dX5_slip_47 rfl ?_
  obtain ⟨n4, hf⟩ := zdL_some hf
  refine lv_lrem hx hb dX5_slip_48 n4 ?_
  refine ztL (y := zrL (zrL (x1 * x1) (65521 : Int64)) ((((2 : Int32) * x3) + 1).toInt64)) rfl ?_
  refine lv_l2i hx hb dX5_slip_49 rfl ?_
  refine lv_iload hx hb dX5_slip_50 (lv_at hl 0 rfl) ?_
  refine lv_isub hx hb dX5_slip_52 ?_
  cases hf
  exact zretI hx hb hr hlocks hK hP hD hS dX5_slip_53
def f_X5_byInch (a0 : Int32) (a1 : Int32) : Option (Int32) := some ((a0 * a1) / (100 : Int32))
abbrev ww_X5_byInch : List Cond := Cond.code yX5_byInch cX5_byInch 2 (some .int) :: wG
theorem q_X5_byInch : yX5_byInch.cls ≠ "java/lang/invoke/MethodHandle" ∧ yX5_byInch.cls ≠ "java/lang/invoke/VarHandle" ∧ (parseMethodDescriptor yX5_byInch.desc).map (fun d => d.parameters.length) = some 2 := by decide +kernel
set_option maxHeartbeats 4000000 in
set_option maxRecDepth 100000 in
theorem c_X5_byInch (l : Launch) (D : va_G) (cI cB : ClassId)  (a0 : Int32) (a1 : Int32) (r0 : Int32) (hf : f_X5_byInch a0 a1 = some r0) : zMi l yX5_byInch ww_X5_byInch ({ frames := 0, cells := 0, slots := 0, locals := 0 } : Room) D cI cB [.int a0, .int a1] [] r0 [] := by
  refine zofI (cc := cX5_byInch) (maxL := 2) (ret := (some .int)) (by decide +kernel) rfl (Nat.le_of_ble_eq_true rfl) ?_
  intro p e s m below meth c A ls hx hb hml hr hown hts hlocks hK hP hD hS hA hl
  have hl : lv_has ls 2 [(0, .int a0), (1, .int a1)] := hl
  have hown : s.vm.findClass RX5 = some m.cls := hown
  have hG : ∀ w ∈ wG, w ∈ ww_X5_byInch := fun w h => List.mem_cons_of_mem _ h
  unfold f_X5_byInch at hf
  refine lv_iload_n hx hb dX5_byInch_0 rfl (lv_at hl 0 rfl) ?_
  refine lv_iload_n hx hb dX5_byInch_1 rfl (lv_at hl 1 rfl) ?_
  refine lv_imul hx hb dX5_byInch_2 ?_
  refine lv_bipush (v := 100) hx hb dX5_byInch_3 (by decide) ?_
  refine lv_idiv hx hb dX5_byInch_5 (by decide) ?_
  cases hf
  exact zretI hx hb hr hlocks hK hP hD hS dX5_byInch_6
def f_X5_cutLength (M : zMm) (a1 : Int32) (a2 : Int32) : Option (Int32) := zl 7 (M 2) a1 (fun v1 => zl 7 (M 1) a1 (fun v2 => zl 6 (M 0) v2 (fun v3 => zb1 (f_X5_byInch (v1 + a2) v3) (fun (r4 : Int32) => some r4))))
abbrev ww_X5_cutLength : List Cond := Cond.code yX5_cutLength cX5_cutLength 3 (some .int) :: wG
theorem q_X5_cutLength : yX5_cutLength.cls = RX5 ∧ yX5_cutLength.cls ≠ "java/lang/invoke/MethodHandle" ∧ yX5_cutLength.cls ≠ "java/lang/invoke/VarHandle" ∧ (parseMethodDescriptor yX5_cutLength.desc).map (fun d => d.parameters.length) = some 2 := by decide +kernel
set_option maxHeartbeats 4000000 in
set_option maxRecDepth 100000 in
theorem c_X5_cutLength (l : Launch) (D : va_G) (cI cB : ClassId) (hM : Nat → Nat) (M : zMm) (a1 : Int32) (a2 : Int32) (r0 : Int32) (hf : f_X5_cutLength M a1 a2 = some r0) : zMi l yX5_cutLength ww_X5_cutLength ({ frames := 1, cells := 0, slots := 0, locals := 21 } : Room) D cI cB [.ref (hM 0), .int a1, .int a2] [k5_0 cI cB hM M, k5_1 cI cB hM M, k5_2 cI cB hM M, k5_3 cI cB hM M] r0 [k5_0 cI cB hM M, k5_1 cI cB hM M, k5_2 cI cB hM M, k5_3 cI cB hM M] := by
  refine zofI (cc := cX5_cutLength) (maxL := 3) (ret := (some .int)) (by decide +kernel) rfl (Nat.le_of_ble_eq_true rfl) ?_
  intro p e s m below meth c A ls hx hb hml hr hown hts hlocks hK hP hD hS hA hl
  have hl : lv_has ls 3 [(0, .ref (hM 0)), (1, .int a1), (2, .int a2)] := hl
  have hown : s.vm.findClass RX5 = some m.cls := hown
  have hG : ∀ w ∈ wG, w ∈ ww_X5_cutLength := fun w h => List.mem_cons_of_mem _ h
  have hi5 : ∀ w ∈ wsX50, w ∈ ww_X5_cutLength := fun w h => List.mem_cons_of_mem _ (z_inX5 w h)
  unfold f_X5_cutLength at hf
  refine lv_aload_n hx hb dX5_cutLength_0 rfl (lv_at hl 0 rfl) ?_
  refine va_get (D := D) (ci := 5) (v := .ref (hM 3)) (C := RX5) (T := TX5) (N := 12) hx hb hts hi5 hown hK hP 0 rfl rfl 2 (Nat.le_of_ble_eq_true rfl) (hts _ (List.mem_cons_of_mem _ wd_181)) (fun _ h9 => h9) rfl dX5_cutLength_1 ?_
  refine lv_iload_n hx hb dX5_cutLength_4 rfl (lv_at hl 1 rfl) ?_
  obtain ⟨i_v1, v1, e_v1, hf⟩ := zl_some hf
  refine va_iald (n := 7) (f := M 2) (cA := cI) hx hb hK hP 3 0 rfl rfl i_v1 dX5_cutLength_5 ?_
  refine zt e_v1 ?_
  refine lv_iload_n hx hb dX5_cutLength_6 rfl (lv_at hl 2 rfl) ?_
  refine lv_iadd hx hb dX5_cutLength_7 ?_
  refine lv_aload_n hx hb dX5_cutLength_8 rfl (lv_at hl 0 rfl) ?_
  refine va_get (D := D) (ci := 5) (v := .ref (hM 1)) (C := RX5) (T := TX5) (N := 12) hx hb hts hi5 hown hK hP 0 rfl rfl 0 (Nat.le_of_ble_eq_true rfl) (hts _ (List.mem_cons_of_mem _ wd_178)) (fun _ h9 => h9) rfl dX5_cutLength_9 ?_
  refine lv_aload_n hx hb dX5_cutLength_12 rfl (lv_at hl 0 rfl) ?_
  refine va_get (D := D) (ci := 5) (v := .ref (hM 2)) (C := RX5) (T := TX5) (N := 12) hx hb hts hi5 hown hK hP 0 rfl rfl 1 (Nat.le_of_ble_eq_true rfl) (hts _ (List.mem_cons_of_mem _ wd_179)) (fun _ h9 => h9) rfl dX5_cutLength_13 ?_
  refine lv_iload_n hx hb dX5_cutLength_16 rfl (lv_at hl 1 rfl) ?_
  obtain ⟨i_v2, v2, e_v2, hf⟩ := zl_some hf
  refine va_iald (n := 7) (f := M 1) (cA := cI) hx hb hK hP 2 0 rfl rfl i_v2 dX5_cutLength_17 ?_
  refine zt e_v2 ?_
  obtain ⟨i_v3, v3, e_v3, hf⟩ := zl_some hf
  refine va_iald (n := 6) (f := M 0) (cA := cI) hx hb hK hP 1 0 rfl rfl i_v3 dX5_cutLength_18 ?_
  refine zt e_v3 ?_
  obtain ⟨r4, hq5, hf⟩ := zb1_some hf
  refine zcallSi (rest := []) ⟨hx, hb, hml, hown, hts⟩ (c_X5_byInch l D cI cB (v1 + a2) v3 r4 hq5) (z_cwS 2 hts (z_gS hG wd_435 wd_436 wd_10 wd_437) rfl rfl rfl q_X5_byInch ⟨Nat.le_of_ble_eq_true rfl, Nat.le_of_ble_eq_true rfl⟩) hK hP hD hS hA rfl hl.1 (Nat.le_of_ble_eq_true rfl) dX5_cutLength_19 ⟨Nat.zero_le _, Nat.zero_le _⟩ rfl (fun H locs hP hD hS => ?_)
  cases hf
  exact zretI hx hb hr hlocks hK hP hD hS dX5_cutLength_22
def f_X5_gapOf (M : zMm) (P2 : zMm) (a1 : Int32) : Option (Int32) := zl 10 (M 4) a1 (fun v1 => zl 7 (P2 0) v1 (fun v2 => zl 10 (M 5) a1 (fun v3 => zl 7 (P2 0) v3 (fun v4 => zv (if 0 ≤ (v2 - v4) then (v2 - v4) else 0 - (v2 - v4)) (fun (x5 : Int32) => some x5)))))
abbrev ww_X5_gapOf : List Cond := Cond.code yX5_gapOf cX5_gapOf 3 (some .int) :: wG
theorem q_X5_gapOf : yX5_gapOf.cls = RX5 ∧ yX5_gapOf.cls ≠ "java/lang/invoke/MethodHandle" ∧ yX5_gapOf.cls ≠ "java/lang/invoke/VarHandle" ∧ (parseMethodDescriptor yX5_gapOf.desc).map (fun d => d.parameters.length) = some 2 := by decide +kernel
set_option maxHeartbeats 4000000 in
set_option maxRecDepth 100000 in
theorem c_X5_gapOf (l : Launch) (D : va_G) (cI cB : ClassId) (hM : Nat → Nat) (hP2 : Nat → Nat) (M : zMm) (P2 : zMm) (a1 : Int32) (r0 : Int32) (hf : f_X5_gapOf M P2 a1 = some r0) : zMi l yX5_gapOf ww_X5_gapOf ({ frames := 1, cells := 0, slots := 0, locals := 21 } : Room) D cI cB [.ref (hM 0), .int a1, .ref (hP2 0)] ([k5_0 cI cB hM M, k5_5 cI cB hM M, k5_6 cI cB hM M] ++ wA7 cI cB hP2 P2) r0 ([k5_0 cI cB hM M, k5_5 cI cB hM M, k5_6 cI cB hM M] ++ wA7 cI cB hP2 P2) := by
  refine zofI (cc := cX5_gapOf) (maxL := 3) (ret := (some .int)) (by decide +kernel) rfl (Nat.le_of_ble_eq_true rfl) ?_
  intro p e s m below meth c A ls hx hb hml hr hown hts hlocks hK hP hD hS hA hl
  have hl : lv_has ls 3 [(0, .ref (hM 0)), (1, .int a1), (2, .ref (hP2 0))] := hl
  have hown : s.vm.findClass RX5 = some m.cls := hown
  have hG : ∀ w ∈ wG, w ∈ ww_X5_gapOf := fun w h => List.mem_cons_of_mem _ h
  have hi5 : ∀ w ∈ wsX50, w ∈ ww_X5_gapOf := fun w h => List.mem_cons_of_mem _ (z_inX5 w h)
  unfold f_X5_gapOf at hf
  refine lv_aload_n hx hb dX5_gapOf_0 rfl (lv_at hl 2 rfl) ?_
  refine lv_aload_n hx hb dX5_gapOf_1 rfl (lv_at hl 0 rfl) ?_
  refine va_get (D := D) (ci := 5) (v := .ref (hM 5)) (C := RX5) (T := TX5) (N := 12) hx hb hts hi5 hown hK hP 0 rfl rfl 4 (Nat.le_of_ble_eq_true rfl) (hts _ (List.mem_cons_of_mem _ wd_185)) (fun _ h9 => h9) rfl dX5_gapOf_2 ?_
  refine lv_iload_n hx hb dX5_gapOf_5 rfl (lv_at hl 1 rfl) ?_
  obtain ⟨i_v1, v1, e_v1, hf⟩ := zl_some hf
  refine va_iald (n := 10) (f := M 4) (cA := cI) hx hb hK hP 1 0 rfl rfl i_v1 dX5_gapOf_6 ?_
  refine zt e_v1 ?_
  obtain ⟨i_v2, v2, e_v2, hf⟩ := zl_some hf
  refine va_iald (n := 7) (f := P2 0) (cA := cI) hx hb hK hP 3 0 rfl rfl i_v2 dX5_gapOf_7 ?_
  refine zt e_v2 ?_
  refine lv_aload_n hx hb dX5_gapOf_8 rfl (lv_at hl 2 rfl) ?_
  refine lv_aload_n hx hb dX5_gapOf_9 rfl (lv_at hl 0 rfl) ?_
  refine va_get (D := D) (ci := 5) (v := .ref (hM 6)) (C := RX5) (T := TX5) (N := 12) hx hb hts hi5 hown hK hP 0 rfl rfl 5 (Nat.le_of_ble_eq_true rfl) (hts _ (List.mem_cons_of_mem _ wd_188)) (fun _ h9 => h9) rfl dX5_gapOf_10 ?_
  refine lv_iload_n hx hb dX5_gapOf_13 rfl (lv_at hl 1 rfl) ?_
  obtain ⟨i_v3, v3, e_v3, hf⟩ := zl_some hf
  refine va_iald (n := 10) (f := M 5) (cA := cI) hx hb hK hP 2 0 rfl rfl i_v3 dX5_gapOf_14 ?_
  refine zt e_v3 ?_
  obtain ⟨i_v4, v4, e_v4, hf⟩ := zl_some hf
  refine va_iald (n := 7) (f := P2 0) (cA := cI) hx hb hK hP 3 0 rfl rfl i_v4 dX5_gapOf_15 ?_
  refine zt e_v4 ?_
  refine lv_isub hx hb dX5_gapOf_16 ?_
  obtain ⟨x5, e_x5, hf⟩ := zv_some hf
  refine va_mabs hx hb (hml.trans hl.1.symm) hown (hts _ (List.mem_cons_of_mem _ wd_462)) (hts _ (List.mem_cons_of_mem _ wd_463)) (hts _ (List.mem_cons_of_mem _ wd_5)) (hts _ (List.mem_cons_of_mem _ wd_464)) (Nat.le_of_ble_eq_true rfl) (Nat.le_of_ble_eq_true rfl) (Nat.zero_le _) (Nat.zero_le _) dX5_gapOf_17 ?_
  refine zt e_x5 ?_
  cases hf
  exact zretI hx hb hr hlocks hK hP hD hS dX5_gapOf_20
def L_X5_sumOfGaps_4 (M : zMm) (P1 : zMm)  : Nat → Int32 → Int32 → Option (Int32 × Int32)
  | 0, _, _ => none
  | n + 1, l2, l3 => if (M 8 0) ≤ l3 then some (l2, l3) else zb1 (f_X5_gapOf M P1 l3) (fun (r2 : Int32) => zv (l2 + r2) (fun (x4 : Int32) => zv (l3 + 1) (fun (x5 : Int32) => L_X5_sumOfGaps_4 M P1 n x4 x5)))
def f_X5_sumOfGaps (M : zMm) (P1 : zMm) : Option (Int32) := zb2 (L_X5_sumOfGaps_4 M P1 100000 0 0) (fun (x6 : Int32) (x7 : Int32) => some x6)
abbrev ww_X5_sumOfGaps : List Cond := Cond.code yX5_sumOfGaps cX5_sumOfGaps 4 (some .int) :: wG
theorem q_X5_sumOfGaps : yX5_sumOfGaps.cls = RX5 ∧ yX5_sumOfGaps.cls ≠ "java/lang/invoke/MethodHandle" ∧ yX5_sumOfGaps.cls ≠ "java/lang/invoke/VarHandle" ∧ (parseMethodDescriptor yX5_sumOfGaps.desc).map (fun d => d.parameters.length) = some 1 := by decide +kernel
set_option maxHeartbeats 4000000 in
set_option maxRecDepth 100000 in
theorem c_X5_sumOfGaps (l : Launch) (D : va_G) (cI cB : ClassId) (hM : Nat → Nat) (hP1 : Nat → Nat) (M : zMm) (P1 : zMm) (r0 : Int32) (hf : f_X5_sumOfGaps M P1 = some r0) : zMi l yX5_sumOfGaps ww_X5_sumOfGaps ({ frames := 2, cells := 0, slots := 0, locals := 43 } : Room) D cI cB [.ref (hM 0), .ref (hP1 0)] ([k5_0 cI cB hM M, k5_5 cI cB hM M, k5_6 cI cB hM M] ++ wA7 cI cB hP1 P1) r0 ([k5_0 cI cB hM M, k5_5 cI cB hM M, k5_6 cI cB hM M] ++ wA7 cI cB hP1 P1) := by
  refine zofI (cc := cX5_sumOfGaps) (maxL := 4) (ret := (some .int)) (by decide +kernel) rfl (Nat.le_of_ble_eq_true rfl) ?_
  intro p e s m below meth c A ls hx hb hml hr hown hts hlocks hK hP hD hS hA hl
  have hl : lv_has ls 4 [(0, .ref (hM 0)), (1, .ref (hP1 0))] := hl
  have hown : s.vm.findClass RX5 = some m.cls := hown
  have hG : ∀ w ∈ wG, w ∈ ww_X5_sumOfGaps := fun w h => List.mem_cons_of_mem _ h
  have hi5 : ∀ w ∈ wsX50, w ∈ ww_X5_sumOfGaps := fun w h => List.mem_cons_of_mem _ (z_inX5 w h)
  have L4 : ∀ (M : zMm) (P1 : zMm)  (n : Nat) (l2 : Int32) (l3 : Int32) (o2 : Int32) (o3 : Int32), L_X5_sumOfGaps_4 M P1 n l2 l3 = some (o2, o3) → zAt p l e ({ frames := 2, cells := 0, slots := 0, locals := 43 } : Room) s m [.ref (hM 0), .ref (hP1 0)].toArray below meth c (MQ below (zQi D cI cB r0 ([k5_0 cI cB hM M, k5_5 cI cB hM M, k5_6 cI cB hM M] ++ wA7 cI cB hP1 P1) A) [.ref (hM 0), .ref (hP1 0)].toArray s 0 0 A) A D 4 ([k5_0 cI cB hM M, k5_5 cI cB hM M, k5_6 cI cB hM M] ++ wA7 cI cB hP1 P1) [(0, .ref (hM 0)), (1, .ref (hP1 0)), (2, .int o2), (3, .int o3)] 27 [] → zAt p l e ({ frames := 2, cells := 0, slots := 0, locals := 43 } : Room) s m [.ref (hM 0), .ref (hP1 0)].toArray below meth c (MQ below (zQi D cI cB r0 ([k5_0 cI cB hM M, k5_5 cI cB hM M, k5_6 cI cB hM M] ++ wA7 cI cB hP1 P1) A) [.ref (hM 0), .ref (hP1 0)].toArray s 0 0 A) A D 4 ([k5_0 cI cB hM M, k5_5 cI cB hM M, k5_6 cI cB hM M] ++ wA7 cI cB hP1 P1) [(0, .ref (hM 0)), (1, .ref (hP1 0)), (2, .int l2), (3, .int l3)] 4 [] := by
    intro M P1 n
    induction n with
    | zero => intro l2 l3 o2 o3 hf; simp [L_X5_sumOfGaps_4] at hf
    | succ n ih =>
      intro l2 l3 o2 o3 hf hk H locs ls hP hD hS hl
      rw [L_X5_sumOfGaps_4] at hf
      refine lv_iload_n hx hb dX5_sumOfGaps_4 rfl (lv_at hl 3 rfl) ?_
      refine lv_aload_n hx hb dX5_sumOfGaps_5 rfl (lv_at hl 0 rfl) ?_
      refine va_get (D := D) (ci := 5) (v := .int (M 8 0)) (C := RX5) (T := TX5) (N := 12) hx hb hts hi5 hown hK hP 0 rfl rfl 8 (Nat.le_of_ble_eq_true rfl) (hts _ (List.mem_cons_of_mem _ wd_197)) (fun _ h9 => h9) rfl dX5_sumOfGaps_6 ?_
      refine lv_icmp_ge (tgt := 27) hx hb dX5_sumOfGaps_9 (by decide) (fun c_1 => ?_) (fun c_1 => ?_)
      · replace hf := zit c_1 hf
        cases hf
        exact hk _ _ _ hP hD hS (lv_sub hl [0, 1, 2, 3] rfl)
      · replace hf := zif c_1 hf
        refine lv_iload_n hx hb dX5_sumOfGaps_12 rfl (lv_at hl 2 rfl) ?_
        refine lv_aload_n hx hb dX5_sumOfGaps_13 rfl (lv_at hl 0 rfl) ?_
        refine lv_iload_n hx hb dX5_sumOfGaps_14 rfl (lv_at hl 3 rfl) ?_
        refine lv_aload_n hx hb dX5_sumOfGaps_15 rfl (lv_at hl 1 rfl) ?_
        obtain ⟨r2, hq3, hf⟩ := zb1_some hf
        refine zcallVi (ws2 := ([k5_0 cI cB hM M, k5_5 cI cB hM M, k5_6 cI cB hM M] ++ wA7 cI cB hP1 P1)) (rest := [.int l2]) ⟨hx, hb, hml, hown, hts⟩ (c_X5_gapOf l D cI cB hM hP1 M P1 l3 r2 hq3) (cwV 2 hts (z_gV hG wd_458 wd_459 wd_460 wd_10 wd_461) rfl rfl rfl q_X5_gapOf ⟨Nat.le_of_ble_eq_true rfl, Nat.le_of_ble_eq_true rfl⟩) hK hP hD hS hA 5 rfl rfl rfl [0, 1, 2, 3] [] rfl rfl rfl rfl rfl rfl rfl hl.1 (Nat.le_of_ble_eq_true rfl) dX5_sumOfGaps_16 ⟨Nat.zero_le _, Nat.zero_le _⟩ rfl (fun H locs hP hD hS => ?_)
        refine lv_iadd hx hb dX5_sumOfGaps_19 ?_
        obtain ⟨x4, e_x4, hf⟩ := zv_some hf
        refine zt e_x4 ?_
        refine lv_istore_n (lv' := [(2, .int x4), (0, .ref (hM 0)), (1, .ref (hP1 0)), (3, .int l3)]) hx hb dX5_sumOfGaps_20 rfl hl (by decide) rfl (fun ls hl => ?_)
        obtain ⟨x5, e_x5, hf⟩ := zv_some hf
        refine lv_iinc (v := x5) (lv' := [(3, .int x5), (2, .int x4), (0, .ref (hM 0)), (1, .ref (hP1 0))]) hx hb dX5_sumOfGaps_21 hl (k := 3) rfl (by rw [e_x5]; rfl) (by decide) rfl (fun ls hl => ?_)
        refine lv_goto (tgt := 4) hx hb dX5_sumOfGaps_24 (by decide) ?_
        exact ih _ _ _ _ hf hk _ _ _ hP hD hS (lv_sub hl [2, 3, 1, 0] rfl)
  unfold f_X5_sumOfGaps at hf
  refine lv_iconst (v := 0) hx hb dX5_sumOfGaps_0 (by decide) ?_
  refine lv_istore_n (lv' := [(2, .int 0), (0, .ref (hM 0)), (1, .ref (hP1 0))]) hx hb dX5_sumOfGaps_1 rfl hl (by decide) rfl (fun ls hl => ?_)
  refine lv_iconst (v := 0) hx hb dX5_sumOfGaps_2 (by decide) ?_
  refine lv_istore_n (lv' := [(3, .int 0), (2, .int 0), (0, .ref (hM 0)), (1, .ref (hP1 0))]) hx hb dX5_sumOfGaps_3 rfl hl (by decide) rfl (fun ls hl => ?_)
  obtain ⟨x6, x7, hq8, hf⟩ := zb2_some hf
  refine L4 _ _ _ _ _ _ _ hq8 ?_ _ _ _ hP hD hS (lv_sub hl [2, 3, 1, 0] rfl)
  intro H locs ls hP hD hS hl
  refine lv_iload_n hx hb dX5_sumOfGaps_27 rfl (lv_at hl 2 rfl) ?_
  cases hf
  exact zretI hx hb hr hlocks hK hP hD hS dX5_sumOfGaps_28
def L_X5_isClosedBy_2 (M : zMm) (P1 : zMm)  : Nat → Int32 → Option (Int32)
  | 0, _ => none
  | n + 1, l2 => if (M 8 0) ≤ l2 then some (1 : Int32) else zb1 (f_X5_gapOf M P1 l2) (fun (r2 : Int32) => if r2 ≤ (M 9 0) then zv (l2 + 1) (fun (x5 : Int32) => L_X5_isClosedBy_2 M P1 n x5) else some (0 : Int32))
def f_X5_isClosedBy (M : zMm) (P1 : zMm) : Option (Int32) := L_X5_isClosedBy_2 M P1 100000 0
abbrev ww_X5_isClosedBy : List Cond := Cond.code yX5_isClosedBy cX5_isClosedBy 3 (some .boolean) :: wG
theorem q_X5_isClosedBy : yX5_isClosedBy.cls = RX5 ∧ yX5_isClosedBy.cls ≠ "java/lang/invoke/MethodHandle" ∧ yX5_isClosedBy.cls ≠ "java/lang/invoke/VarHandle" ∧ (parseMethodDescriptor yX5_isClosedBy.desc).map (fun d => d.parameters.length) = some 1 := by decide +kernel
set_option maxHeartbeats 4000000 in
set_option maxRecDepth 100000 in
theorem c_X5_isClosedBy (l : Launch) (D : va_G) (cI cB : ClassId) (hM : Nat → Nat) (hP1 : Nat → Nat) (M : zMm) (P1 : zMm) (r0 : Int32) (hf : f_X5_isClosedBy M P1 = some r0) : zMi l yX5_isClosedBy ww_X5_isClosedBy ({ frames := 2, cells := 0, slots := 0, locals := 43 } : Room) D cI cB [.ref (hM 0), .ref (hP1 0)] ([k5_0 cI cB hM M, k5_5 cI cB hM M, k5_6 cI cB hM M] ++ wA7 cI cB hP1 P1) r0 ([k5_0 cI cB hM M, k5_5 cI cB hM M, k5_6 cI cB hM M] ++ wA7 cI cB hP1 P1) := by
  refine zofI (cc := cX5_isClosedBy) (maxL := 3) (ret := (some .boolean)) (by decide +kernel) rfl (Nat.le_of_ble_eq_true rfl) ?_
  intro p e s m below meth c A ls hx hb hml hr hown hts hlocks hK hP hD hS hA hl
  have hl : lv_has ls 3 [(0, .ref (hM 0)), (1, .ref (hP1 0))] := hl
  have hown : s.vm.findClass RX5 = some m.cls := hown
  have hG : ∀ w ∈ wG, w ∈ ww_X5_isClosedBy := fun w h => List.mem_cons_of_mem _ h
  have hi5 : ∀ w ∈ wsX50, w ∈ ww_X5_isClosedBy := fun w h => List.mem_cons_of_mem _ (z_inX5 w h)
  have L2 : ∀ (M : zMm) (P1 : zMm)  (n : Nat) (l2 : Int32), L_X5_isClosedBy_2 M P1 n l2 = some r0 → zAt p l e ({ frames := 2, cells := 0, slots := 0, locals := 43 } : Room) s m [.ref (hM 0), .ref (hP1 0)].toArray below meth c (MQ below (zQi D cI cB r0 ([k5_0 cI cB hM M, k5_5 cI cB hM M, k5_6 cI cB hM M] ++ wA7 cI cB hP1 P1) A) [.ref (hM 0), .ref (hP1 0)].toArray s 0 0 A) A D 3 ([k5_0 cI cB hM M, k5_5 cI cB hM M, k5_6 cI cB hM M] ++ wA7 cI cB hP1 P1) [(0, .ref (hM 0)), (1, .ref (hP1 0)), (2, .int l2)] 2 [] := by
    intro M P1 n
    induction n with
    | zero => intro l2 hf; simp [L_X5_isClosedBy_2] at hf
    | succ n ih =>
      intro l2 hf H locs ls hP hD hS hl
      rw [L_X5_isClosedBy_2] at hf
      refine lv_iload_n hx hb dX5_isClosedBy_2 rfl (lv_at hl 2 rfl) ?_
      refine lv_aload_n hx hb dX5_isClosedBy_3 rfl (lv_at hl 0 rfl) ?_
      refine va_get (D := D) (ci := 5) (v := .int (M 8 0)) (C := RX5) (T := TX5) (N := 12) hx hb hts hi5 hown hK hP 0 rfl rfl 8 (Nat.le_of_ble_eq_true rfl) (hts _ (List.mem_cons_of_mem _ wd_197)) (fun _ h9 => h9) rfl dX5_isClosedBy_4 ?_
      refine lv_icmp_ge (tgt := 31) hx hb dX5_isClosedBy_7 (by decide) (fun c_1 => ?_) (fun c_1 => ?_)
      · replace hf := zit c_1 hf
        refine lv_iconst (v := 1) hx hb dX5_isClosedBy_31 (by decide) ?_
        cases hf
        exact zretB hx hb hr hlocks rfl hK hP hD hS dX5_isClosedBy_32
      · replace hf := zif c_1 hf
        refine lv_aload_n hx hb dX5_isClosedBy_10 rfl (lv_at hl 0 rfl) ?_
        refine lv_iload_n hx hb dX5_isClosedBy_11 rfl (lv_at hl 2 rfl) ?_
        refine lv_aload_n hx hb dX5_isClosedBy_12 rfl (lv_at hl 1 rfl) ?_
        obtain ⟨r2, hq3, hf⟩ := zb1_some hf
        refine zcallVi (ws2 := ([k5_0 cI cB hM M, k5_5 cI cB hM M, k5_6 cI cB hM M] ++ wA7 cI cB hP1 P1)) (rest := []) ⟨hx, hb, hml, hown, hts⟩ (c_X5_gapOf l D cI cB hM hP1 M P1 l2 r2 hq3) (cwV 2 hts (z_gV hG wd_458 wd_459 wd_460 wd_10 wd_461) rfl rfl rfl q_X5_gapOf ⟨Nat.le_of_ble_eq_true rfl, Nat.le_of_ble_eq_true rfl⟩) hK hP hD hS hA 5 rfl rfl rfl [0, 1, 2, 3] [] rfl rfl rfl rfl rfl rfl rfl hl.1 (Nat.le_of_ble_eq_true rfl) dX5_isClosedBy_13 ⟨Nat.zero_le _, Nat.zero_le _⟩ rfl (fun H locs hP hD hS => ?_)
        refine lv_aload_n hx hb dX5_isClosedBy_16 rfl (lv_at hl 0 rfl) ?_
        refine va_get (D := D) (ci := 5) (v := .int (M 9 0)) (C := RX5) (T := TX5) (N := 12) hx hb hts hi5 hown hK hP 0 rfl rfl 9 (Nat.le_of_ble_eq_true rfl) (hts _ (List.mem_cons_of_mem _ wd_200)) (fun _ h9 => h9) rfl dX5_isClosedBy_17 ?_
        refine lv_icmp_le (tgt := 25) hx hb dX5_isClosedBy_20 (by decide) (fun c_4 => ?_) (fun c_4 => ?_)
        · replace hf := zit c_4 hf
          obtain ⟨x5, e_x5, hf⟩ := zv_some hf
          refine lv_iinc (v := x5) (lv' := [(2, .int x5), (0, .ref (hM 0)), (1, .ref (hP1 0))]) hx hb dX5_isClosedBy_25 hl (k := 2) rfl (by rw [e_x5]; rfl) (by decide) rfl (fun ls hl => ?_)
          refine lv_goto (tgt := 2) hx hb dX5_isClosedBy_28 (by decide) ?_
          exact ih _ hf _ _ _ hP hD hS (lv_sub hl [1, 2, 0] rfl)
        · replace hf := zif c_4 hf
          refine lv_iconst (v := 0) hx hb dX5_isClosedBy_23 (by decide) ?_
          cases hf
          exact zretB hx hb hr hlocks rfl hK hP hD hS dX5_isClosedBy_24
  unfold f_X5_isClosedBy at hf
  refine lv_iconst (v := 0) hx hb dX5_isClosedBy_0 (by decide) ?_
  refine lv_istore_n (lv' := [(2, .int 0), (0, .ref (hM 0)), (1, .ref (hP1 0))]) hx hb dX5_isClosedBy_1 rfl hl (by decide) rfl (fun ls hl => ?_)
  exact L2 _ _ _ _ hf _ _ _ hP hD hS (lv_sub hl [1, 2, 0] rfl)
def L_X5_sumOfSet_5 (M : zMm) (P1 : zMm) (l2 : Int32) : Nat → Int32 → Int32 → Option (Int32 × Int32)
  | 0, _, _ => none
  | n + 1, l3, l4 => if (M 7 0) ≤ l4 then some (l3, l4) else zb1 (if ((l2 >>> (l4 &&& 31)) &&& 1) = 1 then zl 7 (P1 0) l4 (fun v6 => some v6) else some (0 : Int32)) (fun (y3 : Int32) => zv (l3 + y3) (fun (x7 : Int32) => zv (l4 + 1) (fun (x8 : Int32) => L_X5_sumOfSet_5 M P1 l2 n x7 x8)))
def f_X5_sumOfSet (M : zMm) (P1 : zMm) (a2 : Int32) : Option (Int32) := zb2 (L_X5_sumOfSet_5 M P1 a2 100000 0 0) (fun (x9 : Int32) (x10 : Int32) => some x9)
abbrev ww_X5_sumOfSet : List Cond := Cond.code yX5_sumOfSet cX5_sumOfSet 5 (some .int) :: wG
theorem q_X5_sumOfSet : yX5_sumOfSet.cls = RX5 ∧ yX5_sumOfSet.cls ≠ "java/lang/invoke/MethodHandle" ∧ yX5_sumOfSet.cls ≠ "java/lang/invoke/VarHandle" ∧ (parseMethodDescriptor yX5_sumOfSet.desc).map (fun d => d.parameters.length) = some 2 := by decide +kernel
set_option maxHeartbeats 4000000 in
set_option maxRecDepth 100000 in
theorem c_X5_sumOfSet (l : Launch) (D : va_G) (cI cB : ClassId) (hM : Nat → Nat) (hP1 : Nat → Nat) (M : zMm) (P1 : zMm) (a2 : Int32) (r0 : Int32) (hf : f_X5_sumOfSet M P1 a2 = some r0) : zMi l yX5_sumOfSet ww_X5_sumOfSet ({ frames := 0, cells := 0, slots := 0, locals := 0 } : Room) D cI cB [.ref (hM 0), .ref (hP1 0), .int a2] ([k5_0 cI cB hM M] ++ wA7 cI cB hP1 P1) r0 ([k5_0 cI cB hM M] ++ wA7 cI cB hP1 P1) := by
  refine zofI (cc := cX5_sumOfSet) (maxL := 5) (ret := (some .int)) (by decide +kernel) rfl (Nat.le_of_ble_eq_true rfl) ?_
  intro p e s m below meth c A ls hx hb hml hr hown hts hlocks hK hP hD hS hA hl
  have hl : lv_has ls 5 [(0, .ref (hM 0)), (1, .ref (hP1 0)), (2, .int a2)] := hl
  have hown : s.vm.findClass RX5 = some m.cls := hown
  have hG : ∀ w ∈ wG, w ∈ ww_X5_sumOfSet := fun w h => List.mem_cons_of_mem _ h
  have hi5 : ∀ w ∈ wsX50, w ∈ ww_X5_sumOfSet := fun w h => List.mem_cons_of_mem _ (z_inX5 w h)
  have L5 : ∀ (M : zMm) (P1 : zMm) (l2 : Int32) (n : Nat) (l3 : Int32) (l4 : Int32) (o3 : Int32) (o4 : Int32), L_X5_sumOfSet_5 M P1 l2 n l3 l4 = some (o3, o4) → zAt p l e ({ frames := 0, cells := 0, slots := 0, locals := 0 } : Room) s m [.ref (hM 0), .ref (hP1 0), .int a2].toArray below meth c (MQ below (zQi D cI cB r0 ([k5_0 cI cB hM M] ++ wA7 cI cB hP1 P1) A) [.ref (hM 0), .ref (hP1 0), .int a2].toArray s 0 0 A) A D 5 ([k5_0 cI cB hM M] ++ wA7 cI cB hP1 P1) [(0, .ref (hM 0)), (1, .ref (hP1 0)), (2, .int l2), (3, .int o3), (4, .int o4)] 41 [] → zAt p l e ({ frames := 0, cells := 0, slots := 0, locals := 0 } : Room) s m [.ref (hM 0), .ref (hP1 0), .int a2].toArray below meth c (MQ below (zQi D cI cB r0 ([k5_0 cI cB hM M] ++ wA7 cI cB hP1 P1) A) [.ref (hM 0), .ref (hP1 0), .int a2].toArray s 0 0 A) A D 5 ([k5_0 cI cB hM M] ++ wA7 cI cB hP1 P1) [(0, .ref (hM 0)), (1, .ref (hP1 0)), (2, .int l2), (3, .int l3), (4, .int l4)] 5 [] := by
    intro M P1 l2 n
    induction n with
    | zero => intro l3 l4 o3 o4 hf; simp [L_X5_sumOfSet_5] at hf
    | succ n ih =>
      intro l3 l4 o3 o4 hf hk H locs ls hP hD hS hl
      rw [L_X5_sumOfSet_5] at hf
      refine lv_iload hx hb dX5_sumOfSet_5 (lv_at hl 4 rfl) ?_
      refine lv_aload_n hx hb dX5_sumOfSet_7 rfl (lv_at hl 0 rfl) ?_
      refine va_get (D := D) (ci := 5) (v := .int (M 7 0)) (C := RX5) (T := TX5) (N := 12) hx hb hts hi5 hown hK hP 0 rfl rfl 7 (Nat.le_of_ble_eq_true rfl) (hts _ (List.mem_cons_of_mem _ wd_194)) (fun _ h9 => h9) rfl dX5_sumOfSet_8 ?_
      refine lv_icmp_ge (tgt := 41) hx hb dX5_sumOfSet_11 (by decide) (fun c_1 => ?_) (fun c_1 => ?_)
      · replace hf := zit c_1 hf
        cases hf
        exact hk _ _ _ hP hD hS (lv_sub hl [0, 1, 2, 3, 4] rfl)
      · replace hf := zif c_1 hf
        refine lv_iload_n hx hb dX5_sumOfSet_14 rfl (lv_at hl 3 rfl) ?_
        refine lv_iload_n hx hb dX5_sumOfSet_15 rfl (lv_at hl 2 rfl) ?_
        refine lv_iload hx hb dX5_sumOfSet_16 (lv_at hl 4 rfl) ?_
        refine lv_ishr hx hb dX5_sumOfSet_18 ?_
        refine lv_iconst (v := 1) hx hb dX5_sumOfSet_19 (by decide) ?_
        refine lv_iand hx hb dX5_sumOfSet_20 ?_
        refine lv_iconst (v := 1) hx hb dX5_sumOfSet_21 (by decide) ?_
        obtain ⟨y3, hq4, hf⟩ := zb1_some hf
        have J5 : zAt p l e ({ frames := 0, cells := 0, slots := 0, locals := 0 } : Room) s m [.ref (hM 0), .ref (hP1 0), .int a2].toArray below meth c (MQ below (zQi D cI cB r0 ([k5_0 cI cB hM M] ++ wA7 cI cB hP1 P1) A) [.ref (hM 0), .ref (hP1 0), .int a2].toArray s 0 0 A) A D 5 ([k5_0 cI cB hM M] ++ wA7 cI cB hP1 P1) [(0, .ref (hM 0)), (1, .ref (hP1 0)), (2, .int l2), (3, .int l3), (4, .int l4)] 33 [.int y3, .int l3] := by
          intro H locs ls hP hD hS hl
          refine lv_iadd hx hb dX5_sumOfSet_33 ?_
          obtain ⟨x7, e_x7, hf⟩ := zv_some hf
          refine zt e_x7 ?_
          refine lv_istore_n (lv' := [(3, .int x7), (0, .ref (hM 0)), (1, .ref (hP1 0)), (2, .int l2), (4, .int l4)]) hx hb dX5_sumOfSet_34 rfl hl (by decide) rfl (fun ls hl => ?_)
          obtain ⟨x8, e_x8, hf⟩ := zv_some hf
          refine lv_iinc (v := x8) (lv' := [(4, .int x8), (3, .int x7), (0, .ref (hM 0)), (1, .ref (hP1 0)), (2, .int l2)]) hx hb dX5_sumOfSet_35 hl (k := 4) rfl (by rw [e_x8]; rfl) (by decide) rfl (fun ls hl => ?_)
          refine lv_goto (tgt := 5) hx hb dX5_sumOfSet_38 (by decide) ?_
          exact ih _ _ _ _ hf hk _ _ _ hP hD hS (lv_sub hl [2, 3, 4, 1, 0] rfl)
        replace hf := hq4
        refine lv_icmp_ne (tgt := 32) hx hb dX5_sumOfSet_22 (by decide) (fun c_2 => ?_) (fun c_2 => ?_)
        · replace hf := zif c_2 hf
          refine lv_iconst (v := 0) hx hb dX5_sumOfSet_32 (by decide) ?_
          cases hf
          exact J5 _ _ _ hP hD hS (lv_sub hl [0, 1, 2, 3, 4] rfl)
        · replace hf := zit c_2 hf
          refine lv_aload_n hx hb dX5_sumOfSet_25 rfl (lv_at hl 1 rfl) ?_
          refine lv_iload hx hb dX5_sumOfSet_26 (lv_at hl 4 rfl) ?_
          obtain ⟨i_v6, v6, e_v6, hf⟩ := zl_some hf
          refine va_iald (n := 7) (f := P1 0) (cA := cI) hx hb hK hP 1 0 rfl rfl i_v6 dX5_sumOfSet_28 ?_
          refine zt e_v6 ?_
          refine lv_goto (tgt := 33) hx hb dX5_sumOfSet_29 (by decide) ?_
          cases hf
          exact J5 _ _ _ hP hD hS (lv_sub hl [0, 1, 2, 3, 4] rfl)
  unfold f_X5_sumOfSet at hf
  refine lv_iconst (v := 0) hx hb dX5_sumOfSet_0 (by decide) ?_
  refine lv_istore_n (lv' := [(3, .int 0), (0, .ref (hM 0)), (1, .ref (hP1 0)), (2, .int a2)]) hx hb dX5_sumOfSet_1 rfl hl (by decide) rfl (fun ls hl => ?_)
  refine lv_iconst (v := 0) hx hb dX5_sumOfSet_2 (by decide) ?_
  refine lv_istore (lv' := [(4, .int 0), (3, .int 0), (0, .ref (hM 0)), (1, .ref (hP1 0)), (2, .int a2)]) hx hb dX5_sumOfSet_3 hl (by decide) rfl (fun ls hl => ?_)
  obtain ⟨x9, x10, hq11, hf⟩ := zb2_some hf
  refine L5 _ _ _ _ _ _ _ _ hq11 ?_ _ _ _ hP hD hS (lv_sub hl [2, 3, 4, 1, 0] rfl)
  intro H locs ls hP hD hS hl
  refine lv_iload_n hx hb dX5_sumOfSet_41 rfl (lv_at hl 3 rfl) ?_
  cases hf
  exact zretI hx hb hr hlocks hK hP hD hS dX5_sumOfSet_42
end
section
def L_X1_startAnew_2  : Nat → Int32 → zMm → Option (Int32 × zMm)
  | 0, _, _ => none
  | n + 1, l1, M => if (7 : Int32) ≤ l1 then some (l1, M) else zw 7 M 0 l1 l1 (fun M_2 => zw 7 M_2 1 l1 0 (fun M_3 => zv (l1 + 1) (fun (x4 : Int32) => L_X1_startAnew_2  n x4 M_3)))
def f_X1_startAnew (M : zMm) : Option (zMm) := zb2 (L_X1_startAnew_2 100000 0 M) (fun (x5 : Int32) (M_6 : zMm) => some M_6)
abbrev ww_X1_startAnew : List Cond := Cond.code yX1_startAnew cX1_startAnew 2 none :: wG
theorem q_X1_startAnew : yX1_startAnew.cls = RX1 ∧ yX1_startAnew.cls ≠ "java/lang/invoke/MethodHandle" ∧ yX1_startAnew.cls ≠ "java/lang/invoke/VarHandle" ∧ (parseMethodDescriptor yX1_startAnew.desc).map (fun d => d.parameters.length) = some 0 := by decide +kernel
set_option maxHeartbeats 4000000 in
set_option maxRecDepth 100000 in
theorem c_X1_startAnew (l : Launch) (D : va_G) (cI cB : ClassId) (hM : Nat → Nat) (M : zMm) (M0 : zMm) (hf : f_X1_startAnew M = some M0) : zMv l yX1_startAnew ww_X1_startAnew ({ frames := 0, cells := 0, slots := 0, locals := 0 } : Room) D cI cB [.ref (hM 0)] (w1 cI cB hM M) (w1 cI cB hM M0) := by
  refine zofV (cc := cX1_startAnew) (maxL := 2) (ret := none) (by decide +kernel) rfl (Nat.le_of_ble_eq_true rfl) ?_
  intro p e s m below meth c A ls hx hb hml hr hown hts hlocks hK hP hD hS hA hl
  have hl : lv_has ls 2 [(0, .ref (hM 0))] := hl
  have hown : s.vm.findClass RX1 = some m.cls := hown
  have hG : ∀ w ∈ wG, w ∈ ww_X1_startAnew := fun w h => List.mem_cons_of_mem _ h
  have hi1 : ∀ w ∈ wsX10, w ∈ ww_X1_startAnew := fun w h => List.mem_cons_of_mem _ (z_inX1 w h)
  have L2 : ∀  (n : Nat) (l1 : Int32) (M : zMm) (o1 : Int32) (oM : zMm), L_X1_startAnew_2  n l1 M = some (o1, oM) → zAt p l e ({ frames := 0, cells := 0, slots := 0, locals := 0 } : Room) s m [.ref (hM 0)].toArray below meth c (MQ below (zQv D cI cB (w1 cI cB hM M0) A) [.ref (hM 0)].toArray s 0 0 A) A D 2 (w1 cI cB hM oM) [(0, .ref (hM 0)), (1, .int o1)] 28 [] → zAt p l e ({ frames := 0, cells := 0, slots := 0, locals := 0 } : Room) s m [.ref (hM 0)].toArray below meth c (MQ below (zQv D cI cB (w1 cI cB hM M0) A) [.ref (hM 0)].toArray s 0 0 A) A D 2 (w1 cI cB hM M) [(0, .ref (hM 0)), (1, .int l1)] 2 [] := by
    intro n
    induction n with
    | zero => intro l1 M o1 oM hf; simp [L_X1_startAnew_2] at hf
    | succ n ih =>
      intro l1 M o1 oM hf hk H locs ls hP hD hS hl
      rw [L_X1_startAnew_2] at hf
      refine lv_iload_n hx hb dX1_startAnew_2 rfl (lv_at hl 1 rfl) ?_
      refine lv_bipush (v := 7) hx hb dX1_startAnew_3 (by decide) ?_
      refine lv_icmp_ge (tgt := 28) hx hb dX1_startAnew_5 (by decide) (fun c_1 => ?_) (fun c_1 => ?_)
      · replace hf := zit c_1 hf
        cases hf
        exact hk _ _ _ hP hD hS (lv_sub hl [0, 1] rfl)
      · replace hf := zif c_1 hf
        refine lv_aload_n hx hb dX1_startAnew_8 rfl (lv_at hl 0 rfl) ?_
        refine va_get (D := D) (ci := 1) (v := .ref (hM 1)) (C := RX1) (T := TX1) (N := 2) hx hb hts hi1 hown hK hP 0 rfl rfl 0 (Nat.le_of_ble_eq_true rfl) (hts _ (List.mem_cons_of_mem _ wd_53)) (fun _ h9 => h9) rfl dX1_startAnew_9 ?_
        refine lv_iload_n hx hb dX1_startAnew_12 rfl (lv_at hl 1 rfl) ?_
        refine lv_iload_n hx hb dX1_startAnew_13 rfl (lv_at hl 1 rfl) ?_
        obtain ⟨i_M_2, M_2, e_M_2, hf⟩ := zw_some hf
        refine va_iast (n := 7) (f := M 0) (cA := cI) hx hb hK hP hD hS 1 0 rfl rfl i_M_2 dX1_startAnew_14 (fun H locs hP hD hS => ?_)
        have hP : va_P D vwCl (w1 cI cB hM (zs M 0 (upd (M 0) l1.toNatClampNeg l1))) H := hP
        have hD : va_D A (w1 cI cB hM (zs M 0 (upd (M 0) l1.toNatClampNeg l1))) := hD
        rw [← e_M_2] at hP hD
        refine lv_aload_n hx hb dX1_startAnew_15 rfl (lv_at hl 0 rfl) ?_
        refine va_get (D := D) (ci := 1) (v := .ref (hM 2)) (C := RX1) (T := TX1) (N := 2) hx hb hts hi1 hown hK hP 0 rfl rfl 1 (Nat.le_of_ble_eq_true rfl) (hts _ (List.mem_cons_of_mem _ wd_55)) (fun _ h9 => h9) rfl dX1_startAnew_16 ?_
        refine lv_iload_n hx hb dX1_startAnew_19 rfl (lv_at hl 1 rfl) ?_
        refine lv_iconst (v := 0) hx hb dX1_startAnew_20 (by decide) ?_
        obtain ⟨i_M_3, M_3, e_M_3, hf⟩ := zw_some hf
        refine va_iast (n := 7) (f := M_2 1) (cA := cI) hx hb hK hP hD hS 2 0 rfl rfl i_M_3 dX1_startAnew_21 (fun H locs hP hD hS => ?_)
        have hP : va_P D vwCl (w1 cI cB hM (zs M_2 1 (upd (M_2 1) l1.toNatClampNeg 0))) H := hP
        have hD : va_D A (w1 cI cB hM (zs M_2 1 (upd (M_2 1) l1.toNatClampNeg 0))) := hD
        rw [← e_M_3] at hP hD
        obtain ⟨x4, e_x4, hf⟩ := zv_some hf
        refine lv_iinc (v := x4) (lv' := [(1, .int x4), (0, .ref (hM 0))]) hx hb dX1_startAnew_22 hl (k := 1) rfl (by rw [e_x4]; rfl) (by decide) rfl (fun ls hl => ?_)
        refine lv_goto (tgt := 2) hx hb dX1_startAnew_25 (by decide) ?_
        exact ih _ _ _ _ hf hk _ _ _ hP hD hS (lv_sub hl [1, 0] rfl)
  unfold f_X1_startAnew at hf
  refine lv_iconst (v := 0) hx hb dX1_startAnew_0 (by decide) ?_
  refine lv_istore_n (lv' := [(1, .int 0), (0, .ref (hM 0))]) hx hb dX1_startAnew_1 rfl hl (by decide) rfl (fun ls hl => ?_)
  obtain ⟨x5, M_6, hq7, hf⟩ := zb2_some hf
  refine L2 _ _ _ _ _ hq7 ?_ _ _ _ hP hD hS (lv_sub hl [1, 0] rfl)
  intro H locs ls hP hD hS hl
  cases hf
  exact zretV hx hb hr hlocks hK hP hD hS dX1_startAnew_28
def L_X1_placeOf_2 (M : zMm) (l1 : Int32) : Nat → Int32 → Option (Int32)
  | 0, _ => none
  | n + 1, l2 => if (7 : Int32) ≤ l2 then some (0 : Int32) else zl 7 (M 0) l2 (fun v2 => if v2 = l1 then some l2 else zv (l2 + 1) (fun (x4 : Int32) => L_X1_placeOf_2 M l1 n x4))
def f_X1_placeOf (M : zMm) (a1 : Int32) : Option (Int32) := L_X1_placeOf_2 M a1 100000 0
abbrev ww_X1_placeOf : List Cond := Cond.code yX1_placeOf cX1_placeOf 3 (some .int) :: wG
theorem q_X1_placeOf : yX1_placeOf.cls = RX1 ∧ yX1_placeOf.cls ≠ "java/lang/invoke/MethodHandle" ∧ yX1_placeOf.cls ≠ "java/lang/invoke/VarHandle" ∧ (parseMethodDescriptor yX1_placeOf.desc).map (fun d => d.parameters.length) = some 1 := by decide +kernel
set_option maxHeartbeats 4000000 in
set_option maxRecDepth 100000 in
theorem c_X1_placeOf (l : Launch) (D : va_G) (cI cB : ClassId) (hM : Nat → Nat) (M : zMm) (a1 : Int32) (r0 : Int32) (hf : f_X1_placeOf M a1 = some r0) : zMi l yX1_placeOf ww_X1_placeOf ({ frames := 0, cells := 0, slots := 0, locals := 0 } : Room) D cI cB [.ref (hM 0), .int a1] [k1_0 cI cB hM M, k1_1 cI cB hM M] r0 [k1_0 cI cB hM M, k1_1 cI cB hM M] := by
  refine zofI (cc := cX1_placeOf) (maxL := 3) (ret := (some .int)) (by decide +kernel) rfl (Nat.le_of_ble_eq_true rfl) ?_
  intro p e s m below meth c A ls hx hb hml hr hown hts hlocks hK hP hD hS hA hl
  have hl : lv_has ls 3 [(0, .ref (hM 0)), (1, .int a1)] := hl
  have hown : s.vm.findClass RX1 = some m.cls := hown
  have hG : ∀ w ∈ wG, w ∈ ww_X1_placeOf := fun w h => List.mem_cons_of_mem _ h
  have hi1 : ∀ w ∈ wsX10, w ∈ ww_X1_placeOf := fun w h => List.mem_cons_of_mem _ (z_inX1 w h)
  have L2 : ∀ (M : zMm) (l1 : Int32) (n : Nat) (l2 : Int32), L_X1_placeOf_2 M l1 n l2 = some r0 → zAt p l e ({ frames := 0, cells := 0, slots := 0, locals := 0 } : Room) s m [.ref (hM 0), .int a1].toArray below meth c (MQ below (zQi D cI cB r0 [k1_0 cI cB hM M, k1_1 cI cB hM M] A) [.ref (hM 0), .int a1].toArray s 0 0 A) A D 3 [k1_0 cI cB hM M, k1_1 cI cB hM M] [(0, .ref (hM 0)), (1, .int l1), (2, .int l2)] 2 [] := by
    intro M l1 n
    induction n with
    | zero => intro l2 hf; simp [L_X1_placeOf_2] at hf
    | succ n ih =>
      intro l2 hf H locs ls hP hD hS hl
      rw [L_X1_placeOf_2] at hf
      refine lv_iload_n hx hb dX1_placeOf_2 rfl (lv_at hl 2 rfl) ?_
      refine lv_bipush (v := 7) hx hb dX1_placeOf_3 (by decide) ?_
      refine lv_icmp_ge (tgt := 26) hx hb dX1_placeOf_5 (by decide) (fun c_1 => ?_) (fun c_1 => ?_)
      · replace hf := zit c_1 hf
        refine lv_iconst (v := 0) hx hb dX1_placeOf_26 (by decide) ?_
        cases hf
        exact zretI hx hb hr hlocks hK hP hD hS dX1_placeOf_27
      · replace hf := zif c_1 hf
        refine lv_aload_n hx hb dX1_placeOf_8 rfl (lv_at hl 0 rfl) ?_
        refine va_get (D := D) (ci := 1) (v := .ref (hM 1)) (C := RX1) (T := TX1) (N := 2) hx hb hts hi1 hown hK hP 0 rfl rfl 0 (Nat.le_of_ble_eq_true rfl) (hts _ (List.mem_cons_of_mem _ wd_53)) (fun _ h9 => h9) rfl dX1_placeOf_9 ?_
        refine lv_iload_n hx hb dX1_placeOf_12 rfl (lv_at hl 2 rfl) ?_
        obtain ⟨i_v2, v2, e_v2, hf⟩ := zl_some hf
        refine va_iald (n := 7) (f := M 0) (cA := cI) hx hb hK hP 1 0 rfl rfl i_v2 dX1_placeOf_13 ?_
        refine zt e_v2 ?_
        refine lv_iload_n hx hb dX1_placeOf_14 rfl (lv_at hl 1 rfl) ?_
        refine lv_icmp_ne (tgt := 20) hx hb dX1_placeOf_15 (by decide) (fun c_3 => ?_) (fun c_3 => ?_)
        · replace hf := zif c_3 hf
          obtain ⟨x4, e_x4, hf⟩ := zv_some hf
          refine lv_iinc (v := x4) (lv' := [(2, .int x4), (0, .ref (hM 0)), (1, .int l1)]) hx hb dX1_placeOf_20 hl (k := 2) rfl (by rw [e_x4]; rfl) (by decide) rfl (fun ls hl => ?_)
          refine lv_goto (tgt := 2) hx hb dX1_placeOf_23 (by decide) ?_
          exact ih _ hf _ _ _ hP hD hS (lv_sub hl [1, 2, 0] rfl)
        · replace hf := zit c_3 hf
          refine lv_iload_n hx hb dX1_placeOf_18 rfl (lv_at hl 2 rfl) ?_
          cases hf
          exact zretI hx hb hr hlocks hK hP hD hS dX1_placeOf_19
  unfold f_X1_placeOf at hf
  refine lv_iconst (v := 0) hx hb dX1_placeOf_0 (by decide) ?_
  refine lv_istore_n (lv' := [(2, .int 0), (0, .ref (hM 0)), (1, .int a1)]) hx hb dX1_placeOf_1 rfl hl (by decide) rfl (fun ls hl => ?_)
  exact L2 _ _ _ _ hf _ _ _ hP hD hS (lv_sub hl [1, 2, 0] rfl)
def L_X1_swapPlaces_29 (l1 : Int32) (l2 : Int32) (l3 : Int32) : Nat → Int32 → zMm → Option (Int32 × zMm)
  | 0, _, _ => none
  | n + 1, l4, M => if (7 : Int32) ≤ l4 then some (l4, M) else zw 7 M 1 l4 0 (fun M_6 => zv (l4 + 1) (fun (x7 : Int32) => L_X1_swapPlaces_29 l1 l2 l3 n x7 M_6))
def f_X1_swapPlaces (M : zMm) (a1 : Int32) (a2 : Int32) : Option (zMm) := zl 7 (M 0) a1 (fun v1 => zl 7 (M 0) a2 (fun v2 => zw 7 M 0 a1 v2 (fun M_3 => zw 7 M_3 0 a2 v1 (fun M_4 => zb2 (L_X1_swapPlaces_29 a1 a2 v1 100000 0 M_4) (fun (x8 : Int32) (M_9 : zMm) => some M_9)))))
abbrev ww_X1_swapPlaces : List Cond := Cond.code yX1_swapPlaces cX1_swapPlaces 5 none :: wG
theorem q_X1_swapPlaces : yX1_swapPlaces.cls = RX1 ∧ yX1_swapPlaces.cls ≠ "java/lang/invoke/MethodHandle" ∧ yX1_swapPlaces.cls ≠ "java/lang/invoke/VarHandle" ∧ (parseMethodDescriptor yX1_swapPlaces.desc).map (fun d => d.parameters.length) = some 2 := by decide +kernel
set_option maxHeartbeats 4000000 in
set_option maxRecDepth 100000 in
theorem c_X1_swapPlaces (l : Launch) (D : va_G) (cI cB : ClassId) (hM : Nat → Nat) (M : zMm) (a1 : Int32) (a2 : Int32) (M0 : zMm) (hf : f_X1_swapPlaces M a1 a2 = some M0) : zMv l yX1_swapPlaces ww_X1_swapPlaces ({ frames := 0, cells := 0, slots := 0, locals := 0 } : Room) D cI cB [.ref (hM 0), .int a1, .int a2] (w1 cI cB hM M) (w1 cI cB hM M0) := by
  refine zofV (cc := cX1_swapPlaces) (maxL := 5) (ret := none) (by decide +kernel) rfl (Nat.le_of_ble_eq_true rfl) ?_
  intro p e s m below meth c A ls hx hb hml hr hown hts hlocks hK hP hD hS hA hl
  have hl : lv_has ls 5 [(0, .ref (hM 0)), (1, .int a1), (2, .int a2)] := hl
  have hown : s.vm.findClass RX1 = some m.cls := hown
  have hG : ∀ w ∈ wG, w ∈ ww_X1_swapPlaces := fun w h => List.mem_cons_of_mem _ h
  have hi1 : ∀ w ∈ wsX10, w ∈ ww_X1_swapPlaces := fun w h => List.mem_cons_of_mem _ (z_inX1 w h)
  have L29 : ∀ (l1 : Int32) (l2 : Int32) (l3 : Int32) (n : Nat) (l4 : Int32) (M : zMm) (o4 : Int32) (oM : zMm), L_X1_swapPlaces_29 l1 l2 l3 n l4 M = some (o4, oM) → zAt p l e ({ frames := 0, cells := 0, slots := 0, locals := 0 } : Room) s m [.ref (hM 0), .int a1, .int a2].toArray below meth c (MQ below (zQv D cI cB (w1 cI cB hM M0) A) [.ref (hM 0), .int a1, .int a2].toArray s 0 0 A) A D 5 (w1 cI cB hM oM) [(0, .ref (hM 0)), (1, .int l1), (2, .int l2), (3, .int l3), (4, .int o4)] 50 [] → zAt p l e ({ frames := 0, cells := 0, slots := 0, locals := 0 } : Room) s m [.ref (hM 0), .int a1, .int a2].toArray below meth c (MQ below (zQv D cI cB (w1 cI cB hM M0) A) [.ref (hM 0), .int a1, .int a2].toArray s 0 0 A) A D 5 (w1 cI cB hM M) [(0, .ref (hM 0)), (1, .int l1), (2, .int l2), (3, .int l3), (4, .int l4)] 29 [] := by
    intro l1 l2 l3 n
    induction n with
    | zero => intro l4 M o4 oM hf; simp [L_X1_swapPlaces_29] at hf
    | succ n ih =>
      intro l4 M o4 oM hf hk H locs ls hP hD hS hl
      rw [L_X1_swapPlaces_29] at hf
      refine lv_iload hx hb dX1_swapPlaces_29 (lv_at hl 4 rfl) ?_
      refine lv_bipush (v := 7) hx hb dX1_swapPlaces_31 (by decide) ?_
      refine lv_icmp_ge (tgt := 50) hx hb dX1_swapPlaces_33 (by decide) (fun c_5 => ?_) (fun c_5 => ?_)
      · replace hf := zit c_5 hf
        cases hf
        exact hk _ _ _ hP hD hS (lv_sub hl [0, 1, 2, 3, 4] rfl)
      · replace hf := zif c_5 hf
        refine lv_aload_n hx hb dX1_swapPlaces_36 rfl (lv_at hl 0 rfl) ?_
        refine va_get (D := D) (ci := 1) (v := .ref (hM 2)) (C := RX1) (T := TX1) (N := 2) hx hb hts hi1 hown hK hP 0 rfl rfl 1 (Nat.le_of_ble_eq_true rfl) (hts _ (List.mem_cons_of_mem _ wd_55)) (fun _ h9 => h9) rfl dX1_swapPlaces_37 ?_
        refine lv_iload hx hb dX1_swapPlaces_40 (lv_at hl 4 rfl) ?_
        refine lv_iconst (v := 0) hx hb dX1_swapPlaces_42 (by decide) ?_
        obtain ⟨i_M_6, M_6, e_M_6, hf⟩ := zw_some hf
        refine va_iast (n := 7) (f := M 1) (cA := cI) hx hb hK hP hD hS 2 0 rfl rfl i_M_6 dX1_swapPlaces_43 (fun H locs hP hD hS => ?_)
        have hP : va_P D vwCl (w1 cI cB hM (zs M 1 (upd (M 1) l4.toNatClampNeg 0))) H := hP
        have hD : va_D A (w1 cI cB hM (zs M 1 (upd (M 1) l4.toNatClampNeg 0))) := hD
        rw [← e_M_6] at hP hD
        obtain ⟨x7, e_x7, hf⟩ := zv_some hf
        refine lv_iinc (v := x7) (lv' := [(4, .int x7), (0, .ref (hM 0)), (1, .int l1), (2, .int l2), (3, .int l3)]) hx hb dX1_swapPlaces_44 hl (k := 4) rfl (by rw [e_x7]; rfl) (by decide) rfl (fun ls hl => ?_)
        refine lv_goto (tgt := 29) hx hb dX1_swapPlaces_47 (by decide) ?_
        exact ih _ _ _ _ hf hk _ _ _ hP hD hS (lv_sub hl [1, 2, 3, 4, 0] rfl)
  unfold f_X1_swapPlaces at hf
  refine lv_aload_n hx hb dX1_swapPlaces_0 rfl (lv_at hl 0 rfl) ?_
  refine va_get (D := D) (ci := 1) (v := .ref (hM 1)) (C := RX1) (T := TX1) (N := 2) hx hb hts hi1 hown hK hP 0 rfl rfl 0 (Nat.le_of_ble_eq_true rfl) (hts _ (List.mem_cons_of_mem _ wd_53)) (fun _ h9 => h9) rfl dX1_swapPlaces_1 ?_
  refine lv_iload_n hx hb dX1_swapPlaces_4 rfl (lv_at hl 1 rfl) ?_
  obtain ⟨i_v1, v1, e_v1, hf⟩ := zl_some hf
  refine va_iald (n := 7) (f := M 0) (cA := cI) hx hb hK hP 1 0 rfl rfl i_v1 dX1_swapPlaces_5 ?_
  refine zt e_v1 ?_
  refine lv_istore_n (lv' := [(3, .int v1), (0, .ref (hM 0)), (1, .int a1), (2, .int a2)]) hx hb dX1_swapPlaces_6 rfl hl (by decide) rfl (fun ls hl => ?_)
  refine lv_aload_n hx hb dX1_swapPlaces_7 rfl (lv_at hl 1 rfl) ?_
  refine va_get (D := D) (ci := 1) (v := .ref (hM 1)) (C := RX1) (T := TX1) (N := 2) hx hb hts hi1 hown hK hP 0 rfl rfl 0 (Nat.le_of_ble_eq_true rfl) (hts _ (List.mem_cons_of_mem _ wd_53)) (fun _ h9 => h9) rfl dX1_swapPlaces_8 ?_
  refine lv_iload_n hx hb dX1_swapPlaces_11 rfl (lv_at hl 2 rfl) ?_
  refine lv_aload_n hx hb dX1_swapPlaces_12 rfl (lv_at hl 1 rfl) ?_
  refine va_get (D := D) (ci := 1) (v := .ref (hM 1)) (C := RX1) (T := TX1) (N := 2) hx hb hts hi1 hown hK hP 0 rfl rfl 0 (Nat.le_of_ble_eq_true rfl) (hts _ (List.mem_cons_of_mem _ wd_53)) (fun _ h9 => h9) rfl dX1_swapPlaces_13 ?_
  refine lv_iload_n hx hb dX1_swapPlaces_16 rfl (lv_at hl 3 rfl) ?_
  obtain ⟨i_v2, v2, e_v2, hf⟩ := zl_some hf
  refine va_iald (n := 7) (f := M 0) (cA := cI) hx hb hK hP 1 0 rfl rfl i_v2 dX1_swapPlaces_17 ?_
  refine zt e_v2 ?_
  obtain ⟨i_M_3, M_3, e_M_3, hf⟩ := zw_some hf
  refine va_iast (n := 7) (f := M 0) (cA := cI) hx hb hK hP hD hS 1 0 rfl rfl i_M_3 dX1_swapPlaces_18 (fun H locs hP hD hS => ?_)
  have hP : va_P D vwCl (w1 cI cB hM (zs M 0 (upd (M 0) a1.toNatClampNeg v2))) H := hP
  have hD : va_D A (w1 cI cB hM (zs M 0 (upd (M 0) a1.toNatClampNeg v2))) := hD
  rw [← e_M_3] at hP hD
  refine lv_aload_n hx hb dX1_swapPlaces_19 rfl (lv_at hl 1 rfl) ?_
  refine va_get (D := D) (ci := 1) (v := .ref (hM 1)) (C := RX1) (T := TX1) (N := 2) hx hb hts hi1 hown hK hP 0 rfl rfl 0 (Nat.le_of_ble_eq_true rfl) (hts _ (List.mem_cons_of_mem _ wd_53)) (fun _ h9 => h9) rfl dX1_swapPlaces_20 ?_
  refine lv_iload_n hx hb dX1_swapPlaces_23 rfl (lv_at hl 3 rfl) ?_
  refine lv_iload_n hx hb dX1_swapPlaces_24 rfl (lv_at hl 0 rfl) ?_
  obtain ⟨i_M_4, M_4, e_M_4, hf⟩ := zw_some hf
  refine va_iast (n := 7) (f := M_3 0) (cA := cI) hx hb hK hP hD hS 1 0 rfl rfl i_M_4 dX1_swapPlaces_25 (fun H locs hP hD hS => ?_)
  have hP : va_P D vwCl (w1 cI cB hM (zs M_3 0 (upd (M_3 0) a2.toNatClampNeg v1))) H := hP
  have hD : va_D A (w1 cI cB hM (zs M_3 0 (upd (M_3 0) a2.toNatClampNeg v1))) := hD
  rw [← e_M_4] at hP hD
  refine lv_iconst (v := 0) hx hb dX1_swapPlaces_26 (by decide) ?_
  refine lv_istore (lv' := [(4, .int 0), (3, .int v1), (0, .ref (hM 0)), (1, .int a1), (2, .int a2)]) hx hb dX1_swapPlaces_27 hl (by decide) rfl (fun ls hl => ?_)
  obtain ⟨x8, M_9, hq10, hf⟩ := zb2_some hf
  refine L29 _ _ _ _ _ _ _ _ hq10 ?_ _ _ _ hP hD hS (lv_sub hl [2, 3, 4, 1, 0] rfl)
  intro H locs ls hP hD hS hl
  cases hf
  exact zretV hx hb hr hlocks hK hP hD hS dX1_swapPlaces_50
def f_X2a_clear (M : zMm) : Option (zMm) := zv (zs M 3 (fun _ => 0)) (fun (M_1 : zMm) => some M_1)
abbrev ww_X2a_clear : List Cond := Cond.code yX2_clear cX2_clear 1 none :: wG
theorem q_X2a_clear : yX2_clear.cls = RX2 ∧ yX2_clear.cls ≠ "java/lang/invoke/MethodHandle" ∧ yX2_clear.cls ≠ "java/lang/invoke/VarHandle" ∧ (parseMethodDescriptor yX2_clear.desc).map (fun d => d.parameters.length) = some 0 := by decide +kernel
set_option maxHeartbeats 4000000 in
set_option maxRecDepth 100000 in
theorem c_X2a_clear (l : Launch) (D : va_G) (cI cB : ClassId) (hM : Nat → Nat) (M : zMm) (M0 : zMm) (hf : f_X2a_clear M = some M0) : zMv l yX2_clear ww_X2a_clear ({ frames := 0, cells := 0, slots := 0, locals := 0 } : Room) D cI cB [.ref (hM 0)] (w2a cI cB hM M) (w2a cI cB hM M0) := by
  refine zofV (cc := cX2_clear) (maxL := 1) (ret := none) (by decide +kernel) rfl (Nat.le_of_ble_eq_true rfl) ?_
  intro p e s m below meth c A ls hx hb hml hr hown hts hlocks hK hP hD hS hA hl
  have hl : lv_has ls 1 [(0, .ref (hM 0))] := hl
  have hown : s.vm.findClass RX2 = some m.cls := hown
  have hG : ∀ w ∈ wG, w ∈ ww_X2a_clear := fun w h => List.mem_cons_of_mem _ h
  have hi2 : ∀ w ∈ wsX20, w ∈ ww_X2a_clear := fun w h => List.mem_cons_of_mem _ (z_inX2 w h)
  unfold f_X2a_clear at hf
  refine lv_aload_n hx hb dX2_clear_0 rfl (lv_at hl 0 rfl) ?_
  refine lv_iconst (v := 0) hx hb dX2_clear_1 (by decide) ?_
  obtain ⟨M_1, e_M_1, hf⟩ := zv_some hf
  refine va_put (D := D) (ci := 2) (v := .int 0) (ty := .int) (C := RX2) (T := TX2) (N := 5) hx hb hts hi2 tyX2 tyX2_ok nmX2 hown hK hP hD hS 0 rfl rfl 3 (Nat.le_of_ble_eq_true rfl) (hts _ (List.mem_cons_of_mem _ wd_75)) (fun _ h9 => h9) rfl (by decide +kernel) rfl rfl (Nat.le_of_ble_eq_true rfl) dX2_clear_2 (fun H locs hP hD hS => ?_)
  have hP : va_P D vwCl (w2a cI cB hM (zs M 3 (fun _ => 0))) H := hP
  have hD : va_D A (w2a cI cB hM (zs M 3 (fun _ => 0))) := hD
  rw [← e_M_1] at hP hD
  cases hf
  exact zretV hx hb hr hlocks hK hP hD hS dX2_clear_5
def L_X2a_push_2 (P1 : zMm)  : Nat → Int32 → zMm → Option (Int32 × zMm)
  | 0, _, _ => none
  | n + 1, l2, M => if (7 : Int32) ≤ l2 then some (l2, M) else zl 7 (P1 0) l2 (fun v2 => zw 56 M 1 (((M 4 0) * 7) + l2) v2 (fun M_3 => zl 7 (P1 1) l2 (fun v4 => zw 56 M_3 2 (((M_3 4 0) * 7) + l2) v4 (fun M_5 => zv (l2 + 1) (fun (x6 : Int32) => L_X2a_push_2 P1 n x6 M_5)))))
def f_X2a_push (M : zMm) (P1 : zMm) : Option (zMm) := zb2 (L_X2a_push_2 P1 100000 0 M) (fun (x7 : Int32) (M_8 : zMm) => zb1 (if (M_8 0 0) ≤ ((M_8 4 0) + 1) then some (0 : Int32) else some ((M_8 4 0) + 1)) (fun (y11 : Int32) => zv (zs M_8 4 (fun _ => y11)) (fun (M_14 : zMm) => zv (if (M_14 0 0) < ((M_14 3 0) + 1) then (M_14 0 0) else ((M_14 3 0) + 1)) (fun (x15 : Int32) => zv (zs M_14 3 (fun _ => x15)) (fun (M_16 : zMm) => some M_16)))))
abbrev ww_X2a_push : List Cond := Cond.code yX2_push cX2_push 3 none :: wG
theorem q_X2a_push : yX2_push.cls = RX2 ∧ yX2_push.cls ≠ "java/lang/invoke/MethodHandle" ∧ yX2_push.cls ≠ "java/lang/invoke/VarHandle" ∧ (parseMethodDescriptor yX2_push.desc).map (fun d => d.parameters.length) = some 1 := by decide +kernel
set_option maxHeartbeats 4000000 in
set_option maxRecDepth 100000 in
theorem c_X2a_push (l : Launch) (D : va_G) (cI cB : ClassId) (hM : Nat → Nat) (hP1 : Nat → Nat) (M : zMm) (P1 : zMm) (M0 : zMm) (hf : f_X2a_push M P1 = some M0) : zMv l yX2_push ww_X2a_push ({ frames := 1, cells := 0, slots := 0, locals := 21 } : Room) D cI cB [.ref (hM 0), .ref (hP1 0)] (w2a cI cB hM M ++ w1 cI cB hP1 P1) (w2a cI cB hM M0 ++ w1 cI cB hP1 P1) := by
  refine zofV (cc := cX2_push) (maxL := 3) (ret := none) (by decide +kernel) rfl (Nat.le_of_ble_eq_true rfl) ?_
  intro p e s m below meth c A ls hx hb hml hr hown hts hlocks hK hP hD hS hA hl
  have hl : lv_has ls 3 [(0, .ref (hM 0)), (1, .ref (hP1 0))] := hl
  have hown : s.vm.findClass RX2 = some m.cls := hown
  have hG : ∀ w ∈ wG, w ∈ ww_X2a_push := fun w h => List.mem_cons_of_mem _ h
  have hi1 : ∀ w ∈ wsX10, w ∈ ww_X2a_push := fun w h => List.mem_cons_of_mem _ (z_inX1 w h)
  have hi2 : ∀ w ∈ wsX20, w ∈ ww_X2a_push := fun w h => List.mem_cons_of_mem _ (z_inX2 w h)
  have L2 : ∀ (P1 : zMm)  (n : Nat) (l2 : Int32) (M : zMm) (o2 : Int32) (oM : zMm), L_X2a_push_2 P1 n l2 M = some (o2, oM) → zAt p l e ({ frames := 1, cells := 0, slots := 0, locals := 21 } : Room) s m [.ref (hM 0), .ref (hP1 0)].toArray below meth c (MQ below (zQv D cI cB (w2a cI cB hM M0 ++ w1 cI cB hP1 P1) A) [.ref (hM 0), .ref (hP1 0)].toArray s 0 0 A) A D 3 (w2a cI cB hM oM ++ w1 cI cB hP1 P1) [(0, .ref (hM 0)), (1, .ref (hP1 0)), (2, .int o2)] 54 [] → zAt p l e ({ frames := 1, cells := 0, slots := 0, locals := 21 } : Room) s m [.ref (hM 0), .ref (hP1 0)].toArray below meth c (MQ below (zQv D cI cB (w2a cI cB hM M0 ++ w1 cI cB hP1 P1) A) [.ref (hM 0), .ref (hP1 0)].toArray s 0 0 A) A D 3 (w2a cI cB hM M ++ w1 cI cB hP1 P1) [(0, .ref (hM 0)), (1, .ref (hP1 0)), (2, .int l2)] 2 [] := by
    intro P1 n
    induction n with
    | zero => intro l2 M o2 oM hf; simp [L_X2a_push_2] at hf
    | succ n ih =>
      intro l2 M o2 oM hf hk H locs ls hP hD hS hl
      rw [L_X2a_push_2] at hf
      refine lv_iload_n hx hb dX2_push_2 rfl (lv_at hl 2 rfl) ?_
      refine lv_bipush (v := 7) hx hb dX2_push_3 (by decide) ?_
      refine lv_icmp_ge (tgt := 54) hx hb dX2_push_5 (by decide) (fun c_1 => ?_) (fun c_1 => ?_)
      · replace hf := zit c_1 hf
        cases hf
        exact hk _ _ _ hP hD hS (lv_sub hl [0, 1, 2] rfl)
      · replace hf := zif c_1 hf
        refine lv_aload_n hx hb dX2_push_8 rfl (lv_at hl 0 rfl) ?_
        refine va_get (D := D) (ci := 2) (v := .ref (hM 1)) (C := RX2) (T := TX2) (N := 5) hx hb hts hi2 hown hK hP 0 rfl rfl 1 (Nat.le_of_ble_eq_true rfl) (hts _ (List.mem_cons_of_mem _ wd_73)) (fun _ h9 => h9) rfl dX2_push_9 ?_
        refine lv_aload_n hx hb dX2_push_12 rfl (lv_at hl 0 rfl) ?_
        refine va_get (D := D) (ci := 2) (v := .int (M 4 0)) (C := RX2) (T := TX2) (N := 5) hx hb hts hi2 hown hK hP 0 rfl rfl 4 (Nat.le_of_ble_eq_true rfl) (hts _ (List.mem_cons_of_mem _ wd_77)) (fun _ h9 => h9) rfl dX2_push_13 ?_
        refine lv_bipush (v := 7) hx hb dX2_push_16 (by decide) ?_
        refine lv_imul hx hb dX2_push_18 ?_
        refine lv_iload_n hx hb dX2_push_19 rfl (lv_at hl 2 rfl) ?_
        refine lv_iadd hx hb dX2_push_20 ?_
        refine lv_aload_n hx hb dX2_push_21 rfl (lv_at hl 1 rfl) ?_
        refine va_get (D := D) (ci := 1) (v := .ref (hP1 1)) (C := RX1) (T := TX1) (N := 2) hx hb hts hi1 hown hK hP 3 rfl rfl 0 (Nat.le_of_ble_eq_true rfl) (hts _ (List.mem_cons_of_mem _ wd_54)) (fun _ h9 => h9) rfl dX2_push_22 ?_
        refine lv_iload_n hx hb dX2_push_25 rfl (lv_at hl 2 rfl) ?_
        obtain ⟨i_v2, v2, e_v2, hf⟩ := zl_some hf
        refine va_iald (n := 7) (f := P1 0) (cA := cI) hx hb hK hP 4 0 rfl rfl i_v2 dX2_push_26 ?_
        refine zt e_v2 ?_
        obtain ⟨i_M_3, M_3, e_M_3, hf⟩ := zw_some hf
        refine va_iast (n := 56) (f := M 1) (cA := cI) hx hb hK hP hD hS 1 0 rfl rfl i_M_3 dX2_push_27 (fun H locs hP hD hS => ?_)
        have hP : va_P D vwCl (w2a cI cB hM (zs M 1 (upd (M 1) (((M 4 0) * 7) + l2).toNatClampNeg v2)) ++ w1 cI cB hP1 P1) H := hP
        have hD : va_D A (w2a cI cB hM (zs M 1 (upd (M 1) (((M 4 0) * 7) + l2).toNatClampNeg v2)) ++ w1 cI cB hP1 P1) := hD
        rw [← e_M_3] at hP hD
        refine lv_aload_n hx hb dX2_push_28 rfl (lv_at hl 0 rfl) ?_
        refine va_get (D := D) (ci := 2) (v := .ref (hM 2)) (C := RX2) (T := TX2) (N := 5) hx hb hts hi2 hown hK hP 0 rfl rfl 2 (Nat.le_of_ble_eq_true rfl) (hts _ (List.mem_cons_of_mem _ wd_74)) (fun _ h9 => h9) rfl dX2_push_29 ?_
        refine lv_aload_n hx hb dX2_push_32 rfl (lv_at hl 0 rfl) ?_
        refine va_get (D := D) (ci := 2) (v := .int (M_3 4 0)) (C := RX2) (T := TX2) (N := 5) hx hb hts hi2 hown hK hP 0 rfl rfl 4 (Nat.le_of_ble_eq_true rfl) (hts _ (List.mem_cons_of_mem _ wd_77)) (fun _ h9 => h9) rfl dX2_push_33 ?_
        refine lv_bipush (v := 7) hx hb dX2_push_36 (by decide) ?_
        refine lv_imul hx hb dX2_push_38 ?_
        refine lv_iload_n hx hb dX2_push_39 rfl (lv_at hl 2 rfl) ?_
        refine lv_iadd hx hb dX2_push_40 ?_
        refine lv_aload_n hx hb dX2_push_41 rfl (lv_at hl 1 rfl) ?_
        refine va_get (D := D) (ci := 1) (v := .ref (hP1 2)) (C := RX1) (T := TX1) (N := 2) hx hb hts hi1 hown hK hP 3 rfl rfl 1 (Nat.le_of_ble_eq_true rfl) (hts _ (List.mem_cons_of_mem _ wd_56)) (fun _ h9 => h9) rfl dX2_push_42 ?_
        refine lv_iload_n hx hb dX2_push_45 rfl (lv_at hl 2 rfl) ?_
        obtain ⟨i_v4, v4, e_v4, hf⟩ := zl_some hf
        refine va_iald (n := 7) (f := P1 1) (cA := cI) hx hb hK hP 5 0 rfl rfl i_v4 dX2_push_46 ?_
        refine zt e_v4 ?_
        obtain ⟨i_M_5, M_5, e_M_5, hf⟩ := zw_some hf
        refine va_iast (n := 56) (f := M_3 2) (cA := cI) hx hb hK hP hD hS 2 0 rfl rfl i_M_5 dX2_push_47 (fun H locs hP hD hS => ?_)
        have hP : va_P D vwCl (w2a cI cB hM (zs M_3 2 (upd (M_3 2) (((M_3 4 0) * 7) + l2).toNatClampNeg v4)) ++ w1 cI cB hP1 P1) H := hP
        have hD : va_D A (w2a cI cB hM (zs M_3 2 (upd (M_3 2) (((M_3 4 0) * 7) + l2).toNatClampNeg v4)) ++ w1 cI cB hP1 P1) := hD
        rw [← e_M_5] at hP hD
        obtain ⟨x6, e_x6, hf⟩ := zv_some hf
        refine lv_iinc (v := x6) (lv' := [(2, .int x6), (0, .ref (hM 0)), (1, .ref (hP1 0))]) hx hb dX2_push_48 hl (k := 2) rfl (by rw [e_x6]; rfl) (by decide) rfl (fun ls hl => ?_)
        refine lv_goto (tgt := 2) hx hb dX2_push_51 (by decide) ?_
        exact ih _ _ _ _ hf hk _ _ _ hP hD hS (lv_sub hl [1, 2, 0] rfl)
  unfold f_X2a_push at hf
  refine lv_iconst (v := 0) hx hb dX2_push_0 (by decide) ?_
  refine lv_istore_n (lv' := [(2, .int 0), (0, .ref (hM 0)), (1, .ref (hP1 0))]) hx hb dX2_push_1 rfl hl (by decide) rfl (fun ls hl => ?_)
  obtain ⟨x7, M_8, hq9, hf⟩ := zb2_some hf
  refine L2 _ _ _ _ _ _ hq9 ?_ _ _ _ hP hD hS (lv_sub hl [1, 2, 0] rfl)
  intro H locs ls hP hD hS hl
  refine lv_aload_n hx hb dX2_push_54 rfl (lv_at hl 0 rfl) ?_
  refine lv_aload_n hx hb dX2_push_55 rfl (lv_at hl 0 rfl) ?_
  refine va_get (D := D) (ci := 2) (v := .int (M_8 4 0)) (C := RX2) (T := TX2) (N := 5) hx hb hts hi2 hown hK hP 0 rfl rfl 4 (Nat.le_of_ble_eq_true rfl) (hts _ (List.mem_cons_of_mem _ wd_77)) (fun _ h9 => h9) rfl dX2_push_56 ?_
  refine lv_iconst (v := 1) hx hb dX2_push_59 (by decide) ?_
  refine lv_iadd hx hb dX2_push_60 ?_
  refine lv_aload_n hx hb dX2_push_61 rfl (lv_at hl 0 rfl) ?_
  refine va_get (D := D) (ci := 2) (v := .int (M_8 0 0)) (C := RX2) (T := TX2) (N := 5) hx hb hts hi2 hown hK hP 0 rfl rfl 0 (Nat.le_of_ble_eq_true rfl) (hts _ (List.mem_cons_of_mem _ wd_72)) (fun _ h9 => h9) rfl dX2_push_62 ?_
  obtain ⟨y11, hq12, hf⟩ := zb1_some hf
  have J13 : zAt p l e ({ frames := 1, cells := 0, slots := 0, locals := 21 } : Room) s m [.ref (hM 0), .ref (hP1 0)].toArray below meth c (MQ below (zQv D cI cB (w2a cI cB hM M0 ++ w1 cI cB hP1 P1) A) [.ref (hM 0), .ref (hP1 0)].toArray s 0 0 A) A D 3 (w2a cI cB hM M_8 ++ w1 cI cB hP1 P1) [(0, .ref (hM 0)), (1, .ref (hP1 0)), (2, .int x7)] 78 [.int y11, .ref (hM 0)] := by
    intro H locs ls hP hD hS hl
    obtain ⟨M_14, e_M_14, hf⟩ := zv_some hf
    refine va_put (D := D) (ci := 2) (v := .int y11) (ty := .int) (C := RX2) (T := TX2) (N := 5) hx hb hts hi2 tyX2 tyX2_ok nmX2 hown hK hP hD hS 0 rfl rfl 4 (Nat.le_of_ble_eq_true rfl) (hts _ (List.mem_cons_of_mem _ wd_77)) (fun _ h9 => h9) rfl (by decide +kernel) rfl rfl (Nat.le_of_ble_eq_true rfl) dX2_push_78 (fun H locs hP hD hS => ?_)
    have hP : va_P D vwCl (w2a cI cB hM (zs M_8 4 (fun _ => y11)) ++ w1 cI cB hP1 P1) H := hP
    have hD : va_D A (w2a cI cB hM (zs M_8 4 (fun _ => y11)) ++ w1 cI cB hP1 P1) := hD
    rw [← e_M_14] at hP hD
    refine lv_aload_n hx hb dX2_push_81 rfl (lv_at hl 0 rfl) ?_
    refine lv_aload_n hx hb dX2_push_82 rfl (lv_at hl 0 rfl) ?_
    refine va_get (D := D) (ci := 2) (v := .int (M_14 3 0)) (C := RX2) (T := TX2) (N := 5) hx hb hts hi2 hown hK hP 0 rfl rfl 3 (Nat.le_of_ble_eq_true rfl) (hts _ (List.mem_cons_of_mem _ wd_75)) (fun _ h9 => h9) rfl dX2_push_83 ?_
    refine lv_iconst (v := 1) hx hb dX2_push_86 (by decide) ?_
    refine lv_iadd hx hb dX2_push_87 ?_
    refine lv_aload_n hx hb dX2_push_88 rfl (lv_at hl 0 rfl) ?_
    refine va_get (D := D) (ci := 2) (v := .int (M_14 0 0)) (C := RX2) (T := TX2) (N := 5) hx hb hts hi2 hown hK hP 0 rfl rfl 0 (Nat.le_of_ble_eq_true rfl) (hts _ (List.mem_cons_of_mem _ wd_72)) (fun _ h9 => h9) rfl dX2_push_89 ?_
    obtain ⟨x15, e_x15, hf⟩ := zv_some hf
    refine va_mmin hx hb (hml.trans hl.1.symm) hown (hts _ (List.mem_cons_of_mem _ wd_482)) (hts _ (List.mem_cons_of_mem _ wd_427)) (hts _ (List.mem_cons_of_mem _ wd_5)) (hts _ (List.mem_cons_of_mem _ wd_428)) (Nat.le_of_ble_eq_true rfl) (Nat.le_of_ble_eq_true rfl) (Nat.zero_le _) (Nat.zero_le _) dX2_push_92 ?_
    refine zt e_x15 ?_
    obtain ⟨M_16, e_M_16, hf⟩ := zv_some hf
    refine va_put (D := D) (ci := 2) (v := .int x15) (ty := .int) (C := RX2) (T := TX2) (N := 5) hx hb hts hi2 tyX2 tyX2_ok nmX2 hown hK hP hD hS 0 rfl rfl 3 (Nat.le_of_ble_eq_true rfl) (hts _ (List.mem_cons_of_mem _ wd_75)) (fun _ h9 => h9) rfl (by decide +kernel) rfl rfl (Nat.le_of_ble_eq_true rfl) dX2_push_95 (fun H locs hP hD hS => ?_)
    have hP : va_P D vwCl (w2a cI cB hM (zs M_14 3 (fun _ => x15)) ++ w1 cI cB hP1 P1) H := hP
    have hD : va_D A (w2a cI cB hM (zs M_14 3 (fun _ => x15)) ++ w1 cI cB hP1 P1) := hD
    rw [← e_M_16] at hP hD
    cases hf
    exact zretV hx hb hr hlocks hK hP hD hS dX2_push_98
  replace hf := hq12
  refine lv_icmp_ge (tgt := 77) hx hb dX2_push_65 (by decide) (fun c_10 => ?_) (fun c_10 => ?_)
  · replace hf := zit c_10 hf
    refine lv_iconst (v := 0) hx hb dX2_push_77 (by decide) ?_
    cases hf
    exact J13 _ _ _ hP hD hS (lv_sub hl [0, 1, 2] rfl)
  · replace hf := zif c_10 hf
    refine lv_aload_n hx hb dX2_push_68 rfl (lv_at hl 0 rfl) ?_
    refine va_get (D := D) (ci := 2) (v := .int (M_8 4 0)) (C := RX2) (T := TX2) (N := 5) hx hb hts hi2 hown hK hP 0 rfl rfl 4 (Nat.le_of_ble_eq_true rfl) (hts _ (List.mem_cons_of_mem _ wd_77)) (fun _ h9 => h9) rfl dX2_push_69 ?_
    refine lv_iconst (v := 1) hx hb dX2_push_72 (by decide) ?_
    refine lv_iadd hx hb dX2_push_73 ?_
    refine lv_goto (tgt := 78) hx hb dX2_push_74 (by decide) ?_
    cases hf
    exact J13 _ _ _ hP hD hS (lv_sub hl [0, 1, 2] rfl)
def L_X2a_popInto_46 (M : zMm)  : Nat → Int32 → zMm → Option (Int32 × zMm)
  | 0, _, _ => none
  | n + 1, l2, P1 => if (7 : Int32) ≤ l2 then some (l2, P1) else zl 56 (M 1) (((M 4 0) * 7) + l2) (fun v9 => zw 7 P1 0 l2 v9 (fun P1_10 => zl 56 (M 2) (((M 4 0) * 7) + l2) (fun v11 => zw 7 P1_10 1 l2 v11 (fun P1_12 => zv (l2 + 1) (fun (x13 : Int32) => L_X2a_popInto_46 M n x13 P1_12)))))
def f_X2a_popInto (M : zMm) (P1 : zMm) : Option (zMm × zMm) := if (M 3 0) = 0 then some (M, P1) else zv (zs M 3 (fun _ => (M 3 0) - 1)) (fun (M_2 : zMm) => zb1 (if (M_2 4 0) ≤ 0 then some ((M_2 0 0) - 1) else some ((M_2 4 0) - 1)) (fun (y4 : Int32) => zv (zs M_2 4 (fun _ => y4)) (fun (M_7 : zMm) => zb2 (L_X2a_popInto_46 M_7 100000 0 P1) (fun (x14 : Int32) (P1_15 : zMm) => some (M_7, P1_15)))))
abbrev ww_X2a_popInto : List Cond := Cond.code yX2_popInto cX2_popInto 3 none :: wG
theorem q_X2a_popInto : yX2_popInto.cls = RX2 ∧ yX2_popInto.cls ≠ "java/lang/invoke/MethodHandle" ∧ yX2_popInto.cls ≠ "java/lang/invoke/VarHandle" ∧ (parseMethodDescriptor yX2_popInto.desc).map (fun d => d.parameters.length) = some 1 := by decide +kernel
set_option maxHeartbeats 4000000 in
set_option maxRecDepth 100000 in
theorem c_X2a_popInto (l : Launch) (D : va_G) (cI cB : ClassId) (hM : Nat → Nat) (hP1 : Nat → Nat) (M : zMm) (P1 : zMm) (M0 : zMm) (P10 : zMm) (hf : f_X2a_popInto M P1 = some (M0, P10)) : zMv l yX2_popInto ww_X2a_popInto ({ frames := 0, cells := 0, slots := 0, locals := 0 } : Room) D cI cB [.ref (hM 0), .ref (hP1 0)] (w2a cI cB hM M ++ w1 cI cB hP1 P1) (w2a cI cB hM M0 ++ w1 cI cB hP1 P10) := by
  refine zofV (cc := cX2_popInto) (maxL := 3) (ret := none) (by decide +kernel) rfl (Nat.le_of_ble_eq_true rfl) ?_
  intro p e s m below meth c A ls hx hb hml hr hown hts hlocks hK hP hD hS hA hl
  have hl : lv_has ls 3 [(0, .ref (hM 0)), (1, .ref (hP1 0))] := hl
  have hown : s.vm.findClass RX2 = some m.cls := hown
  have hG : ∀ w ∈ wG, w ∈ ww_X2a_popInto := fun w h => List.mem_cons_of_mem _ h
  have hi1 : ∀ w ∈ wsX10, w ∈ ww_X2a_popInto := fun w h => List.mem_cons_of_mem _ (z_inX1 w h)
  have hi2 : ∀ w ∈ wsX20, w ∈ ww_X2a_popInto := fun w h => List.mem_cons_of_mem _ (z_inX2 w h)
  have L46 : ∀ (M : zMm)  (n : Nat) (l2 : Int32) (P1 : zMm) (o2 : Int32) (oP1 : zMm), L_X2a_popInto_46 M n l2 P1 = some (o2, oP1) → zAt p l e ({ frames := 0, cells := 0, slots := 0, locals := 0 } : Room) s m [.ref (hM 0), .ref (hP1 0)].toArray below meth c (MQ below (zQv D cI cB (w2a cI cB hM M0 ++ w1 cI cB hP1 P10) A) [.ref (hM 0), .ref (hP1 0)].toArray s 0 0 A) A D 3 (w2a cI cB hM M ++ w1 cI cB hP1 oP1) [(0, .ref (hM 0)), (1, .ref (hP1 0)), (2, .int o2)] 98 [] → zAt p l e ({ frames := 0, cells := 0, slots := 0, locals := 0 } : Room) s m [.ref (hM 0), .ref (hP1 0)].toArray below meth c (MQ below (zQv D cI cB (w2a cI cB hM M0 ++ w1 cI cB hP1 P10) A) [.ref (hM 0), .ref (hP1 0)].toArray s 0 0 A) A D 3 (w2a cI cB hM M ++ w1 cI cB hP1 P1) [(0, .ref (hM 0)), (1, .ref (hP1 0)), (2, .int l2)] 46 [] := by
    intro M n
    induction n with
    | zero => intro l2 P1 o2 oP1 hf; simp [L_X2a_popInto_46] at hf
    | succ n ih =>
      intro l2 P1 o2 oP1 hf hk H locs ls hP hD hS hl
      rw [L_X2a_popInto_46] at hf
      refine lv_iload_n hx hb dX2_popInto_46 rfl (lv_at hl 2 rfl) ?_
      refine lv_bipush (v := 7) hx hb dX2_popInto_47 (by decide) ?_
      refine lv_icmp_ge (tgt := 98) hx hb dX2_popInto_49 (by decide) (fun c_8 => ?_) (fun c_8 => ?_)
      · replace hf := zit c_8 hf
        cases hf
        exact hk _ _ _ hP hD hS (lv_sub hl [0, 1, 2] rfl)
      · replace hf := zif c_8 hf
        refine lv_aload_n hx hb dX2_popInto_52 rfl (lv_at hl 1 rfl) ?_
        refine va_get (D := D) (ci := 1) (v := .ref (hP1 1)) (C := RX1) (T := TX1) (N := 2) hx hb hts hi1 hown hK hP 3 rfl rfl 0 (Nat.le_of_ble_eq_true rfl) (hts _ (List.mem_cons_of_mem _ wd_54)) (fun _ h9 => h9) rfl dX2_popInto_53 ?_
        refine lv_iload_n hx hb dX2_popInto_56 rfl (lv_at hl 2 rfl) ?_
        refine lv_aload_n hx hb dX2_popInto_57 rfl (lv_at hl 0 rfl) ?_
        refine va_get (D := D) (ci := 2) (v := .ref (hM 1)) (C := RX2) (T := TX2) (N := 5) hx hb hts hi2 hown hK hP 0 rfl rfl 1 (Nat.le_of_ble_eq_true rfl) (hts _ (List.mem_cons_of_mem _ wd_73)) (fun _ h9 => h9) rfl dX2_popInto_58 ?_
        refine lv_aload_n hx hb dX2_popInto_61 rfl (lv_at hl 0 rfl) ?_
        refine va_get (D := D) (ci := 2) (v := .int (M 4 0)) (C := RX2) (T := TX2) (N := 5) hx hb hts hi2 hown hK hP 0 rfl rfl 4 (Nat.le_of_ble_eq_true rfl) (hts _ (List.mem_cons_of_mem _ wd_77)) (fun _ h9 => h9) rfl dX2_popInto_62 ?_
        refine lv_bipush (v := 7) hx hb dX2_popInto_65 (by decide) ?_
        refine lv_imul hx hb dX2_popInto_67 ?_
        refine lv_iload_n hx hb dX2_popInto_68 rfl (lv_at hl 2 rfl) ?_
        refine lv_iadd hx hb dX2_popInto_69 ?_
        obtain ⟨i_v9, v9, e_v9, hf⟩ := zl_some hf
        refine va_iald (n := 56) (f := M 1) (cA := cI) hx hb hK hP 1 0 rfl rfl i_v9 dX2_popInto_70 ?_
        refine zt e_v9 ?_
        obtain ⟨i_P1_10, P1_10, e_P1_10, hf⟩ := zw_some hf
        refine va_iast (n := 7) (f := P1 0) (cA := cI) hx hb hK hP hD hS 4 0 rfl rfl i_P1_10 dX2_popInto_71 (fun H locs hP hD hS => ?_)
        have hP : va_P D vwCl (w2a cI cB hM M ++ w1 cI cB hP1 (zs P1 0 (upd (P1 0) l2.toNatClampNeg v9))) H := hP
        have hD : va_D A (w2a cI cB hM M ++ w1 cI cB hP1 (zs P1 0 (upd (P1 0) l2.toNatClampNeg v9))) := hD
        rw [← e_P1_10] at hP hD
        refine lv_aload_n hx hb dX2_popInto_72 rfl (lv_at hl 1 rfl) ?_
        refine va_get (D := D) (ci := 1) (v := .ref (hP1 2)) (C := RX1) (T := TX1) (N := 2) hx hb hts hi1 hown hK hP 3 rfl rfl 1 (Nat.le_of_ble_eq_true rfl) (hts _ (List.mem_cons_of_mem _ wd_56)) (fun _ h9 => h9) rfl dX2_popInto_73 ?_
        refine lv_iload_n hx hb dX2_popInto_76 rfl (lv_at hl 2 rfl) ?_
        refine lv_aload_n hx hb dX2_popInto_77 rfl (lv_at hl 0 rfl) ?_
        refine va_get (D := D) (ci := 2) (v := .ref (hM 2)) (C := RX2) (T := TX2) (N := 5) hx hb hts hi2 hown hK hP 0 rfl rfl 2 (Nat.le_of_ble_eq_true rfl) (hts _ (List.mem_cons_of_mem _ wd_74)) (fun _ h9 => h9) rfl dX2_popInto_78 ?_
        refine lv_aload_n hx hb dX2_popInto_81 rfl (lv_at hl 0 rfl) ?_
        refine va_get (D := D) (ci := 2) (v := .int (M 4 0)) (C := RX2) (T := TX2) (N := 5) hx hb hts hi2 hown hK hP 0 rfl rfl 4 (Nat.le_of_ble_eq_true rfl) (hts _ (List.mem_cons_of_mem _ wd_77)) (fun _ h9 => h9) rfl dX2_popInto_82 ?_
        refine lv_bipush (v := 7) hx hb dX2_popInto_85 (by decide) ?_
        refine lv_imul hx hb dX2_popInto_87 ?_
        refine lv_iload_n hx hb dX2_popInto_88 rfl (lv_at hl 2 rfl) ?_
        refine lv_iadd hx hb dX2_popInto_89 ?_
        obtain ⟨i_v11, v11, e_v11, hf⟩ := zl_some hf
        refine va_iald (n := 56) (f := M 2) (cA := cI) hx hb hK hP 2 0 rfl rfl i_v11 dX2_popInto_90 ?_
        refine zt e_v11 ?_
        obtain ⟨i_P1_12, P1_12, e_P1_12, hf⟩ := zw_some hf
        refine va_iast (n := 7) (f := P1_10 1) (cA := cI) hx hb hK hP hD hS 5 0 rfl rfl i_P1_12 dX2_popInto_91 (fun H locs hP hD hS => ?_)
        have hP : va_P D vwCl (w2a cI cB hM M ++ w1 cI cB hP1 (zs P1_10 1 (upd (P1_10 1) l2.toNatClampNeg v11))) H := hP
        have hD : va_D A (w2a cI cB hM M ++ w1 cI cB hP1 (zs P1_10 1 (upd (P1_10 1) l2.toNatClampNeg v11))) := hD
        rw [← e_P1_12] at hP hD
        obtain ⟨x13, e_x13, hf⟩ := zv_some hf
        refine lv_iinc (v := x13) (lv' := [(2, .int x13), (0, .ref (hM 0)), (1, .ref (hP1 0))]) hx hb dX2_popInto_92 hl (k := 2) rfl (by rw [e_x13]; rfl) (by decide) rfl (fun ls hl => ?_)
        refine lv_goto (tgt := 46) hx hb dX2_popInto_95 (by decide) ?_
        exact ih _ _ _ _ hf hk _ _ _ hP hD hS (lv_sub hl [1, 2, 0] rfl)
  unfold f_X2a_popInto at hf
  refine lv_aload_n hx hb dX2_popInto_0 rfl (lv_at hl 0 rfl) ?_
  refine va_get (D := D) (ci := 2) (v := .int (M 3 0)) (C := RX2) (T := TX2) (N := 5) hx hb hts hi2 hown hK hP 0 rfl rfl 3 (Nat.le_of_ble_eq_true rfl) (hts _ (List.mem_cons_of_mem _ wd_75)) (fun _ h9 => h9) rfl dX2_popInto_1 ?_
  refine lv_if_ne (tgt := 8) hx hb dX2_popInto_4 (by decide) (fun c_1 => ?_) (fun c_1 => ?_)
  · replace hf := zif c_1 hf
    refine lv_aload_n hx hb dX2_popInto_8 rfl (lv_at hl 0 rfl) ?_
    refine lv_dup hx hb dX2_popInto_9 rfl ?_
    refine va_get (D := D) (ci := 2) (v := .int (M 3 0)) (C := RX2) (T := TX2) (N := 5) hx hb hts hi2 hown hK hP 0 rfl rfl 3 (Nat.le_of_ble_eq_true rfl) (hts _ (List.mem_cons_of_mem _ wd_75)) (fun _ h9 => h9) rfl dX2_popInto_10 ?_
    refine lv_iconst (v := 1) hx hb dX2_popInto_13 (by decide) ?_
    refine lv_isub hx hb dX2_popInto_14 ?_
    obtain ⟨M_2, e_M_2, hf⟩ := zv_some hf
    refine va_put (D := D) (ci := 2) (v := .int ((M 3 0) - 1)) (ty := .int) (C := RX2) (T := TX2) (N := 5) hx hb hts hi2 tyX2 tyX2_ok nmX2 hown hK hP hD hS 0 rfl rfl 3 (Nat.le_of_ble_eq_true rfl) (hts _ (List.mem_cons_of_mem _ wd_75)) (fun _ h9 => h9) rfl (by decide +kernel) rfl rfl (Nat.le_of_ble_eq_true rfl) dX2_popInto_15 (fun H locs hP hD hS => ?_)
    have hP : va_P D vwCl (w2a cI cB hM (zs M 3 (fun _ => (M 3 0) - 1)) ++ w1 cI cB hP1 P1) H := hP
    have hD : va_D A (w2a cI cB hM (zs M 3 (fun _ => (M 3 0) - 1)) ++ w1 cI cB hP1 P1) := hD
    rw [← e_M_2] at hP hD
    refine lv_aload_n hx hb dX2_popInto_18 rfl (lv_at hl 0 rfl) ?_
    refine lv_aload_n hx hb dX2_popInto_19 rfl (lv_at hl 0 rfl) ?_
    refine va_get (D := D) (ci := 2) (v := .int (M_2 4 0)) (C := RX2) (T := TX2) (N := 5) hx hb hts hi2 hown hK hP 0 rfl rfl 4 (Nat.le_of_ble_eq_true rfl) (hts _ (List.mem_cons_of_mem _ wd_77)) (fun _ h9 => h9) rfl dX2_popInto_20 ?_
    obtain ⟨y4, hq5, hf⟩ := zb1_some hf
    have J6 : zAt p l e ({ frames := 0, cells := 0, slots := 0, locals := 0 } : Room) s m [.ref (hM 0), .ref (hP1 0)].toArray below meth c (MQ below (zQv D cI cB (w2a cI cB hM M0 ++ w1 cI cB hP1 P10) A) [.ref (hM 0), .ref (hP1 0)].toArray s 0 0 A) A D 3 (w2a cI cB hM M_2 ++ w1 cI cB hP1 P1) [(0, .ref (hM 0)), (1, .ref (hP1 0))] 41 [.int y4, .ref (hM 0)] := by
      intro H locs ls hP hD hS hl
      obtain ⟨M_7, e_M_7, hf⟩ := zv_some hf
      refine va_put (D := D) (ci := 2) (v := .int y4) (ty := .int) (C := RX2) (T := TX2) (N := 5) hx hb hts hi2 tyX2 tyX2_ok nmX2 hown hK hP hD hS 0 rfl rfl 4 (Nat.le_of_ble_eq_true rfl) (hts _ (List.mem_cons_of_mem _ wd_77)) (fun _ h9 => h9) rfl (by decide +kernel) rfl rfl (Nat.le_of_ble_eq_true rfl) dX2_popInto_41 (fun H locs hP hD hS => ?_)
      have hP : va_P D vwCl (w2a cI cB hM (zs M_2 4 (fun _ => y4)) ++ w1 cI cB hP1 P1) H := hP
      have hD : va_D A (w2a cI cB hM (zs M_2 4 (fun _ => y4)) ++ w1 cI cB hP1 P1) := hD
      rw [← e_M_7] at hP hD
      refine lv_iconst (v := 0) hx hb dX2_popInto_44 (by decide) ?_
      refine lv_istore_n (lv' := [(2, .int 0), (0, .ref (hM 0)), (1, .ref (hP1 0))]) hx hb dX2_popInto_45 rfl hl (by decide) rfl (fun ls hl => ?_)
      obtain ⟨x14, P1_15, hq16, hf⟩ := zb2_some hf
      refine L46 _ _ _ _ _ _ hq16 ?_ _ _ _ hP hD hS (lv_sub hl [1, 2, 0] rfl)
      intro H locs ls hP hD hS hl
      cases hf
      exact zretV hx hb hr hlocks hK hP hD hS dX2_popInto_98
    replace hf := hq5
    refine lv_if_le (tgt := 35) hx hb dX2_popInto_23 (by decide) (fun c_3 => ?_) (fun c_3 => ?_)
    · replace hf := zit c_3 hf
      refine lv_aload_n hx hb dX2_popInto_35 rfl (lv_at hl 0 rfl) ?_
      refine va_get (D := D) (ci := 2) (v := .int (M_2 0 0)) (C := RX2) (T := TX2) (N := 5) hx hb hts hi2 hown hK hP 0 rfl rfl 0 (Nat.le_of_ble_eq_true rfl) (hts _ (List.mem_cons_of_mem _ wd_72)) (fun _ h9 => h9) rfl dX2_popInto_36 ?_
      refine lv_iconst (v := 1) hx hb dX2_popInto_39 (by decide) ?_
      refine lv_isub hx hb dX2_popInto_40 ?_
      cases hf
      exact J6 _ _ _ hP hD hS (lv_sub hl [0, 1] rfl)
    · replace hf := zif c_3 hf
      refine lv_aload_n hx hb dX2_popInto_26 rfl (lv_at hl 0 rfl) ?_
      refine va_get (D := D) (ci := 2) (v := .int (M_2 4 0)) (C := RX2) (T := TX2) (N := 5) hx hb hts hi2 hown hK hP 0 rfl rfl 4 (Nat.le_of_ble_eq_true rfl) (hts _ (List.mem_cons_of_mem _ wd_77)) (fun _ h9 => h9) rfl dX2_popInto_27 ?_
      refine lv_iconst (v := 1) hx hb dX2_popInto_30 (by decide) ?_
      refine lv_isub hx hb dX2_popInto_31 ?_
      refine lv_goto (tgt := 41) hx hb dX2_popInto_32 (by decide) ?_
      cases hf
      exact J6 _ _ _ hP hD hS (lv_sub hl [0, 1] rfl)
  · replace hf := zit c_1 hf
    cases hf
    exact zretV hx hb hr hlocks hK hP hD hS dX2_popInto_7
def f_X2b_clear (M : zMm) : Option (zMm) := zv (zs M 3 (fun _ => 0)) (fun (M_1 : zMm) => some M_1)
abbrev ww_X2b_clear : List Cond := Cond.code yX2_clear cX2_clear 1 none :: wG
theorem q_X2b_clear : yX2_clear.cls = RX2 ∧ yX2_clear.cls ≠ "java/lang/invoke/MethodHandle" ∧ yX2_clear.cls ≠ "java/lang/invoke/VarHandle" ∧ (parseMethodDescriptor yX2_clear.desc).map (fun d => d.parameters.length) = some 0 := by decide +kernel
set_option maxHeartbeats 4000000 in
set_option maxRecDepth 100000 in
theorem c_X2b_clear (l : Launch) (D : va_G) (cI cB : ClassId) (hM : Nat → Nat) (M : zMm) (M0 : zMm) (hf : f_X2b_clear M = some M0) : zMv l yX2_clear ww_X2b_clear ({ frames := 0, cells := 0, slots := 0, locals := 0 } : Room) D cI cB [.ref (hM 0)] (w2b cI cB hM M) (w2b cI cB hM M0) := by
  refine zofV (cc := cX2_clear) (maxL := 1) (ret := none) (by decide +kernel) rfl (Nat.le_of_ble_eq_true rfl) ?_
  intro p e s m below meth c A ls hx hb hml hr hown hts hlocks hK hP hD hS hA hl
  have hl : lv_has ls 1 [(0, .ref (hM 0))] := hl
  have hown : s.vm.findClass RX2 = some m.cls := hown
  have hG : ∀ w ∈ wG, w ∈ ww_X2b_clear := fun w h => List.mem_cons_of_mem _ h
  have hi2 : ∀ w ∈ wsX20, w ∈ ww_X2b_clear := fun w h => List.mem_cons_of_mem _ (z_inX2 w h)
  unfold f_X2b_clear at hf
  refine lv_aload_n hx hb dX2_clear_0 rfl (lv_at hl 0 rfl) ?_
  refine lv_iconst (v := 0) hx hb dX2_clear_1 (by decide) ?_
  obtain ⟨M_1, e_M_1, hf⟩ := zv_some hf
  refine va_put (D := D) (ci := 2) (v := .int 0) (ty := .int) (C := RX2) (T := TX2) (N := 5) hx hb hts hi2 tyX2 tyX2_ok nmX2 hown hK hP hD hS 0 rfl rfl 3 (Nat.le_of_ble_eq_true rfl) (hts _ (List.mem_cons_of_mem _ wd_75)) (fun _ h9 => h9) rfl (by decide +kernel) rfl rfl (Nat.le_of_ble_eq_true rfl) dX2_clear_2 (fun H locs hP hD hS => ?_)
  have hP : va_P D vwCl (w2b cI cB hM (zs M 3 (fun _ => 0))) H := hP
  have hD : va_D A (w2b cI cB hM (zs M 3 (fun _ => 0))) := hD
  rw [← e_M_1] at hP hD
  cases hf
  exact zretV hx hb hr hlocks hK hP hD hS dX2_clear_5
def L_X2b_push_2 (P1 : zMm)  : Nat → Int32 → zMm → Option (Int32 × zMm)
  | 0, _, _ => none
  | n + 1, l2, M => if (7 : Int32) ≤ l2 then some (l2, M) else zl 7 (P1 0) l2 (fun v2 => zw 14 M 1 (((M 4 0) * 7) + l2) v2 (fun M_3 => zl 7 (P1 1) l2 (fun v4 => zw 14 M_3 2 (((M_3 4 0) * 7) + l2) v4 (fun M_5 => zv (l2 + 1) (fun (x6 : Int32) => L_X2b_push_2 P1 n x6 M_5)))))
def f_X2b_push (M : zMm) (P1 : zMm) : Option (zMm) := zb2 (L_X2b_push_2 P1 100000 0 M) (fun (x7 : Int32) (M_8 : zMm) => zb1 (if (M_8 0 0) ≤ ((M_8 4 0) + 1) then some (0 : Int32) else some ((M_8 4 0) + 1)) (fun (y11 : Int32) => zv (zs M_8 4 (fun _ => y11)) (fun (M_14 : zMm) => zv (if (M_14 0 0) < ((M_14 3 0) + 1) then (M_14 0 0) else ((M_14 3 0) + 1)) (fun (x15 : Int32) => zv (zs M_14 3 (fun _ => x15)) (fun (M_16 : zMm) => some M_16)))))
abbrev ww_X2b_push : List Cond := Cond.code yX2_push cX2_push 3 none :: wG
theorem q_X2b_push : yX2_push.cls = RX2 ∧ yX2_push.cls ≠ "java/lang/invoke/MethodHandle" ∧ yX2_push.cls ≠ "java/lang/invoke/VarHandle" ∧ (parseMethodDescriptor yX2_push.desc).map (fun d => d.parameters.length) = some 1 := by decide +kernel
set_option maxHeartbeats 4000000 in
set_option maxRecDepth 100000 in
theorem c_X2b_push (l : Launch) (D : va_G) (cI cB : ClassId) (hM : Nat → Nat) (hP1 : Nat → Nat) (M : zMm) (P1 : zMm) (M0 : zMm) (hf : f_X2b_push M P1 = some M0) : zMv l yX2_push ww_X2b_push ({ frames := 1, cells := 0, slots := 0, locals := 21 } : Room) D cI cB [.ref (hM 0), .ref (hP1 0)] (w2b cI cB hM M ++ w1 cI cB hP1 P1) (w2b cI cB hM M0 ++ w1 cI cB hP1 P1) := by
  refine zofV (cc := cX2_push) (maxL := 3) (ret := none) (by decide +kernel) rfl (Nat.le_of_ble_eq_true rfl) ?_
  intro p e s m below meth c A ls hx hb hml hr hown hts hlocks hK hP hD hS hA hl
  have hl : lv_has ls 3 [(0, .ref (hM 0)), (1, .ref (hP1 0))] := hl
  have hown : s.vm.findClass RX2 = some m.cls := hown
  have hG : ∀ w ∈ wG, w ∈ ww_X2b_push := fun w h => List.mem_cons_of_mem _ h
  have hi1 : ∀ w ∈ wsX10, w ∈ ww_X2b_push := fun w h => List.mem_cons_of_mem _ (z_inX1 w h)
  have hi2 : ∀ w ∈ wsX20, w ∈ ww_X2b_push := fun w h => List.mem_cons_of_mem _ (z_inX2 w h)
  have L2 : ∀ (P1 : zMm)  (n : Nat) (l2 : Int32) (M : zMm) (o2 : Int32) (oM : zMm), L_X2b_push_2 P1 n l2 M = some (o2, oM) → zAt p l e ({ frames := 1, cells := 0, slots := 0, locals := 21 } : Room) s m [.ref (hM 0), .ref (hP1 0)].toArray below meth c (MQ below (zQv D cI cB (w2b cI cB hM M0 ++ w1 cI cB hP1 P1) A) [.ref (hM 0), .ref (hP1 0)].toArray s 0 0 A) A D 3 (w2b cI cB hM oM ++ w1 cI cB hP1 P1) [(0, .ref (hM 0)), (1, .ref (hP1 0)), (2, .int o2)] 54 [] → zAt p l e ({ frames := 1, cells := 0, slots := 0, locals := 21 } : Room) s m [.ref (hM 0), .ref (hP1 0)].toArray below meth c (MQ below (zQv D cI cB (w2b cI cB hM M0 ++ w1 cI cB hP1 P1) A) [.ref (hM 0), .ref (hP1 0)].toArray s 0 0 A) A D 3 (w2b cI cB hM M ++ w1 cI cB hP1 P1) [(0, .ref (hM 0)), (1, .ref (hP1 0)), (2, .int l2)] 2 [] := by
    intro P1 n
    induction n with
    | zero => intro l2 M o2 oM hf; simp [L_X2b_push_2] at hf
    | succ n ih =>
      intro l2 M o2 oM hf hk H locs ls hP hD hS hl
      rw [L_X2b_push_2] at hf
      refine lv_iload_n hx hb dX2_push_2 rfl (lv_at hl 2 rfl) ?_
      refine lv_bipush (v := 7) hx hb dX2_push_3 (by decide) ?_
      refine lv_icmp_ge (tgt := 54) hx hb dX2_push_5 (by decide) (fun c_1 => ?_) (fun c_1 => ?_)
      · replace hf := zit c_1 hf
        cases hf
        exact hk _ _ _ hP hD hS (lv_sub hl [0, 1, 2] rfl)
      · replace hf := zif c_1 hf
        refine lv_aload_n hx hb dX2_push_8 rfl (lv_at hl 0 rfl) ?_
        refine va_get (D := D) (ci := 2) (v := .ref (hM 1)) (C := RX2) (T := TX2) (N := 5) hx hb hts hi2 hown hK hP 0 rfl rfl 1 (Nat.le_of_ble_eq_true rfl) (hts _ (List.mem_cons_of_mem _ wd_73)) (fun _ h9 => h9) rfl dX2_push_9 ?_
        refine lv_aload_n hx hb dX2_push_12 rfl (lv_at hl 0 rfl) ?_
        refine va_get (D := D) (ci := 2) (v := .int (M 4 0)) (C := RX2) (T := TX2) (N := 5) hx hb hts hi2 hown hK hP 0 rfl rfl 4 (Nat.le_of_ble_eq_true rfl) (hts _ (List.mem_cons_of_mem _ wd_77)) (fun _ h9 => h9) rfl dX2_push_13 ?_
        refine lv_bipush (v := 7) hx hb dX2_push_16 (by decide) ?_
        refine lv_imul hx hb dX2_push_18 ?_
        refine lv_iload_n hx hb dX2_push_19 rfl (lv_at hl 2 rfl) ?_
        refine lv_iadd hx hb dX2_push_20 ?_
        refine lv_aload_n hx hb dX2_push_21 rfl (lv_at hl 1 rfl) ?_
        refine va_get (D := D) (ci := 1) (v := .ref (hP1 1)) (C := RX1) (T := TX1) (N := 2) hx hb hts hi1 hown hK hP 3 rfl rfl 0 (Nat.le_of_ble_eq_true rfl) (hts _ (List.mem_cons_of_mem _ wd_54)) (fun _ h9 => h9) rfl dX2_push_22 ?_
        refine lv_iload_n hx hb dX2_push_25 rfl (lv_at hl 2 rfl) ?_
        obtain ⟨i_v2, v2, e_v2, hf⟩ := zl_some hf
        refine va_iald (n := 7) (f := P1 0) (cA := cI) hx hb hK hP 4 0 rfl rfl i_v2 dX2_push_26 ?_
        refine zt e_v2 ?_
        obtain ⟨i_M_3, M_3, e_M_3, hf⟩ := zw_some hf
        refine va_iast (n := 14) (f := M 1) (cA := cI) hx hb hK hP hD hS 1 0 rfl rfl i_M_3 dX2_push_27 (fun H locs hP hD hS => ?_)
        have hP : va_P D vwCl (w2b cI cB hM (zs M 1 (upd (M 1) (((M 4 0) * 7) + l2).toNatClampNeg v2)) ++ w1 cI cB hP1 P1) H := hP
        have hD : va_D A (w2b cI cB hM (zs M 1 (upd (M 1) (((M 4 0) * 7) + l2).toNatClampNeg v2)) ++ w1 cI cB hP1 P1) := hD
        rw [← e_M_3] at hP hD
        refine lv_aload_n hx hb dX2_push_28 rfl (lv_at hl 0 rfl) ?_
        refine va_get (D := D) (ci := 2) (v := .ref (hM 2)) (C := RX2) (T := TX2) (N := 5) hx hb hts hi2 hown hK hP 0 rfl rfl 2 (Nat.le_of_ble_eq_true rfl) (hts _ (List.mem_cons_of_mem _ wd_74)) (fun _ h9 => h9) rfl dX2_push_29 ?_
        refine lv_aload_n hx hb dX2_push_32 rfl (lv_at hl 0 rfl) ?_
        refine va_get (D := D) (ci := 2) (v := .int (M_3 4 0)) (C := RX2) (T := TX2) (N := 5) hx hb hts hi2 hown hK hP 0 rfl rfl 4 (Nat.le_of_ble_eq_true rfl) (hts _ (List.mem_cons_of_mem _ wd_77)) (fun _ h9 => h9) rfl dX2_push_33 ?_
        refine lv_bipush (v := 7) hx hb dX2_push_36 (by decide) ?_
        refine lv_imul hx hb dX2_push_38 ?_
        refine lv_iload_n hx hb dX2_push_39 rfl (lv_at hl 2 rfl) ?_
        refine lv_iadd hx hb dX2_push_40 ?_
        refine lv_aload_n hx hb dX2_push_41 rfl (lv_at hl 1 rfl) ?_
        refine va_get (D := D) (ci := 1) (v := .ref (hP1 2)) (C := RX1) (T := TX1) (N := 2) hx hb hts hi1 hown hK hP 3 rfl rfl 1 (Nat.le_of_ble_eq_true rfl) (hts _ (List.mem_cons_of_mem _ wd_56)) (fun _ h9 => h9) rfl dX2_push_42 ?_
        refine lv_iload_n hx hb dX2_push_45 rfl (lv_at hl 2 rfl) ?_
        obtain ⟨i_v4, v4, e_v4, hf⟩ := zl_some hf
        refine va_iald (n := 7) (f := P1 1) (cA := cI) hx hb hK hP 5 0 rfl rfl i_v4 dX2_push_46 ?_
        refine zt e_v4 ?_
        obtain ⟨i_M_5, M_5, e_M_5, hf⟩ := zw_some hf
        refine va_iast (n := 14) (f := M_3 2) (cA := cI) hx hb hK hP hD hS 2 0 rfl rfl i_M_5 dX2_push_47 (fun H locs hP hD hS => ?_)
        have hP : va_P D vwCl (w2b cI cB hM (zs M_3 2 (upd (M_3 2) (((M_3 4 0) * 7) + l2).toNatClampNeg v4)) ++ w1 cI cB hP1 P1) H := hP
        have hD : va_D A (w2b cI cB hM (zs M_3 2 (upd (M_3 2) (((M_3 4 0) * 7) + l2).toNatClampNeg v4)) ++ w1 cI cB hP1 P1) := hD
        rw [← e_M_5] at hP hD
        obtain ⟨x6, e_x6, hf⟩ := zv_some hf
        refine lv_iinc (v := x6) (lv' := [(2, .int x6), (0, .ref (hM 0)), (1, .ref (hP1 0))]) hx hb dX2_push_48 hl (k := 2) rfl (by rw [e_x6]; rfl) (by decide) rfl (fun ls hl => ?_)
        refine lv_goto (tgt := 2) hx hb dX2_push_51 (by decide) ?_
        exact ih _ _ _ _ hf hk _ _ _ hP hD hS (lv_sub hl [1, 2, 0] rfl)
  unfold f_X2b_push at hf
  refine lv_iconst (v := 0) hx hb dX2_push_0 (by decide) ?_
  refine lv_istore_n (lv' := [(2, .int 0), (0, .ref (hM 0)), (1, .ref (hP1 0))]) hx hb dX2_push_1 rfl hl (by decide) rfl (fun ls hl => ?_)
  obtain ⟨x7, M_8, hq9, hf⟩ := zb2_some hf
  refine L2 _ _ _ _ _ _ hq9 ?_ _ _ _ hP hD hS (lv_sub hl [1, 2, 0] rfl)
  intro H locs ls hP hD hS hl
  refine lv_aload_n hx hb dX2_push_54 rfl (lv_at hl 0 rfl) ?_
  refine lv_aload_n hx hb dX2_push_55 rfl (lv_at hl 0 rfl) ?_
  refine va_get (D := D) (ci := 2) (v := .int (M_8 4 0)) (C := RX2) (T := TX2) (N := 5) hx hb hts hi2 hown hK hP 0 rfl rfl 4 (Nat.le_of_ble_eq_true rfl) (hts _ (List.mem_cons_of_mem _ wd_77)) (fun _ h9 => h9) rfl dX2_push_56 ?_
  refine lv_iconst (v := 1) hx hb dX2_push_59 (by decide) ?_
  refine lv_iadd hx hb dX2_push_60 ?_
  refine lv_aload_n hx hb dX2_push_61 rfl (lv_at hl 0 rfl) ?_
  refine va_get (D := D) (ci := 2) (v := .int (M_8 0 0)) (C := RX2) (T := TX2) (N := 5) hx hb hts hi2 hown hK hP 0 rfl rfl 0 (Nat.le_of_ble_eq_true rfl) (hts _ (List.mem_cons_of_mem _ wd_72)) (fun _ h9 => h9) rfl dX2_push_62 ?_
  obtain ⟨y11, hq12, hf⟩ := zb1_some hf
  have J13 : zAt p l e ({ frames := 1, cells := 0, slots := 0, locals := 21 } : Room) s m [.ref (hM 0), .ref (hP1 0)].toArray below meth c (MQ below (zQv D cI cB (w2b cI cB hM M0 ++ w1 cI cB hP1 P1) A) [.ref (hM 0), .ref (hP1 0)].toArray s 0 0 A) A D 3 (w2b cI cB hM M_8 ++ w1 cI cB hP1 P1) [(0, .ref (hM 0)), (1, .ref (hP1 0)), (2, .int x7)] 78 [.int y11, .ref (hM 0)] := by
    intro H locs ls hP hD hS hl
    obtain ⟨M_14, e_M_14, hf⟩ := zv_some hf
    refine va_put (D := D) (ci := 2) (v := .int y11) (ty := .int) (C := RX2) (T := TX2) (N := 5) hx hb hts hi2 tyX2 tyX2_ok nmX2 hown hK hP hD hS 0 rfl rfl 4 (Nat.le_of_ble_eq_true rfl) (hts _ (List.mem_cons_of_mem _ wd_77)) (fun _ h9 => h9) rfl (by decide +kernel) rfl rfl (Nat.le_of_ble_eq_true rfl) dX2_push_78 (fun H locs hP hD hS => ?_)
    have hP : va_P D vwCl (w2b cI cB hM (zs M_8 4 (fun _ => y11)) ++ w1 cI cB hP1 P1) H := hP
    have hD : va_D A (w2b cI cB hM (zs M_8 4 (fun _ => y11)) ++ w1 cI cB hP1 P1) := hD
    rw [← e_M_14] at hP hD
    refine lv_aload_n hx hb dX2_push_81 rfl (lv_at hl 0 rfl) ?_
    refine lv_aload_n hx hb dX2_push_82 rfl (lv_at hl 0 rfl) ?_
    refine va_get (D := D) (ci := 2) (v := .int (M_14 3 0)) (C := RX2) (T := TX2) (N := 5) hx hb hts hi2 hown hK hP 0 rfl rfl 3 (Nat.le_of_ble_eq_true rfl) (hts _ (List.mem_cons_of_mem _ wd_75)) (fun _ h9 => h9) rfl dX2_push_83 ?_
    refine lv_iconst (v := 1) hx hb dX2_push_86 (by decide) ?_
    refine lv_iadd hx hb dX2_push_87 ?_
    refine lv_aload_n hx hb dX2_push_88 rfl (lv_at hl 0 rfl) ?_
    refine va_get (D := D) (ci := 2) (v := .int (M_14 0 0)) (C := RX2) (T := TX2) (N := 5) hx hb hts hi2 hown hK hP 0 rfl rfl 0 (Nat.le_of_ble_eq_true rfl) (hts _ (List.mem_cons_of_mem _ wd_72)) (fun _ h9 => h9) rfl dX2_push_89 ?_
    obtain ⟨x15, e_x15, hf⟩ := zv_some hf
    refine va_mmin hx hb (hml.trans hl.1.symm) hown (hts _ (List.mem_cons_of_mem _ wd_482)) (hts _ (List.mem_cons_of_mem _ wd_427)) (hts _ (List.mem_cons_of_mem _ wd_5)) (hts _ (List.mem_cons_of_mem _ wd_428)) (Nat.le_of_ble_eq_true rfl) (Nat.le_of_ble_eq_true rfl) (Nat.zero_le _) (Nat.zero_le _) dX2_push_92 ?_
    refine zt e_x15 ?_
    obtain ⟨M_16, e_M_16, hf⟩ := zv_some hf
    refine va_put (D := D) (ci := 2) (v := .int x15) (ty := .int) (C := RX2) (T := TX2) (N := 5) hx hb hts hi2 tyX2 tyX2_ok nmX2 hown hK hP hD hS 0 rfl rfl 3 (Nat.le_of_ble_eq_true rfl) (hts _ (List.mem_cons_of_mem _ wd_75)) (fun _ h9 => h9) rfl (by decide +kernel) rfl rfl (Nat.le_of_ble_eq_true rfl) dX2_push_95 (fun H locs hP hD hS => ?_)
    have hP : va_P D vwCl (w2b cI cB hM (zs M_14 3 (fun _ => x15)) ++ w1 cI cB hP1 P1) H := hP
    have hD : va_D A (w2b cI cB hM (zs M_14 3 (fun _ => x15)) ++ w1 cI cB hP1 P1) := hD
    rw [← e_M_16] at hP hD
    cases hf
    exact zretV hx hb hr hlocks hK hP hD hS dX2_push_98
  replace hf := hq12
  refine lv_icmp_ge (tgt := 77) hx hb dX2_push_65 (by decide) (fun c_10 => ?_) (fun c_10 => ?_)
  · replace hf := zit c_10 hf
    refine lv_iconst (v := 0) hx hb dX2_push_77 (by decide) ?_
    cases hf
    exact J13 _ _ _ hP hD hS (lv_sub hl [0, 1, 2] rfl)
  · replace hf := zif c_10 hf
    refine lv_aload_n hx hb dX2_push_68 rfl (lv_at hl 0 rfl) ?_
    refine va_get (D := D) (ci := 2) (v := .int (M_8 4 0)) (C := RX2) (T := TX2) (N := 5) hx hb hts hi2 hown hK hP 0 rfl rfl 4 (Nat.le_of_ble_eq_true rfl) (hts _ (List.mem_cons_of_mem _ wd_77)) (fun _ h9 => h9) rfl dX2_push_69 ?_
    refine lv_iconst (v := 1) hx hb dX2_push_72 (by decide) ?_
    refine lv_iadd hx hb dX2_push_73 ?_
    refine lv_goto (tgt := 78) hx hb dX2_push_74 (by decide) ?_
    cases hf
    exact J13 _ _ _ hP hD hS (lv_sub hl [0, 1, 2] rfl)
def L_X2b_popInto_46 (M : zMm)  : Nat → Int32 → zMm → Option (Int32 × zMm)
  | 0, _, _ => none
  | n + 1, l2, P1 => if (7 : Int32) ≤ l2 then some (l2, P1) else zl 14 (M 1) (((M 4 0) * 7) + l2) (fun v9 => zw 7 P1 0 l2 v9 (fun P1_10 => zl 14 (M 2) (((M 4 0) * 7) + l2) (fun v11 => zw 7 P1_10 1 l2 v11 (fun P1_12 => zv (l2 + 1) (fun (x13 : Int32) => L_X2b_popInto_46 M n x13 P1_12)))))
def f_X2b_popInto (M : zMm) (P1 : zMm) : Option (zMm × zMm) := if (M 3 0) = 0 then some (M, P1) else zv (zs M 3 (fun _ => (M 3 0) - 1)) (fun (M_2 : zMm) => zb1 (if (M_2 4 0) ≤ 0 then some ((M_2 0 0) - 1) else some ((M_2 4 0) - 1)) (fun (y4 : Int32) => zv (zs M_2 4 (fun _ => y4)) (fun (M_7 : zMm) => zb2 (L_X2b_popInto_46 M_7 100000 0 P1) (fun (x14 : Int32) (P1_15 : zMm) => some (M_7, P1_15)))))
abbrev ww_X2b_popInto : List Cond := Cond.code yX2_popInto cX2_popInto 3 none :: wG
theorem q_X2b_popInto : yX2_popInto.cls = RX2 ∧ yX2_popInto.cls ≠ "java/lang/invoke/MethodHandle" ∧ yX2_popInto.cls ≠ "java/lang/invoke/VarHandle" ∧ (parseMethodDescriptor yX2_popInto.desc).map (fun d => d.parameters.length) = some 1 := by decide +kernel
set_option maxHeartbeats 4000000 in
set_option maxRecDepth 100000 in
theorem c_X2b_popInto (l : Launch) (D : va_G) (cI cB : ClassId) (hM : Nat → Nat) (hP1 : Nat → Nat) (M : zMm) (P1 : zMm) (M0 : zMm) (P10 : zMm) (hf : f_X2b_popInto M P1 = some (M0, P10)) : zMv l yX2_popInto ww_X2b_popInto ({ frames := 0, cells := 0, slots := 0, locals := 0 } : Room) D cI cB [.ref (hM 0), .ref (hP1 0)] (w2b cI cB hM M ++ w1 cI cB hP1 P1) (w2b cI cB hM M0 ++ w1 cI cB hP1 P10) := by
  refine zofV (cc := cX2_popInto) (maxL := 3) (ret := none) (by decide +kernel) rfl (Nat.le_of_ble_eq_true rfl) ?_
  intro p e s m below meth c A ls hx hb hml hr hown hts hlocks hK hP hD hS hA hl
  have hl : lv_has ls 3 [(0, .ref (hM 0)), (1, .ref (hP1 0))] := hl
  have hown : s.vm.findClass RX2 = some m.cls := hown
  have hG : ∀ w ∈ wG, w ∈ ww_X2b_popInto := fun w h => List.mem_cons_of_mem _ h
  have hi1 : ∀ w ∈ wsX10, w ∈ ww_X2b_popInto := fun w h => List.mem_cons_of_mem _ (z_inX1 w h)
  have hi2 : ∀ w ∈ wsX20, w ∈ ww_X2b_popInto := fun w h => List.mem_cons_of_mem _ (z_inX2 w h)
  have L46 : ∀ (M : zMm)  (n : Nat) (l2 : Int32) (P1 : zMm) (o2 : Int32) (oP1 : zMm), L_X2b_popInto_46 M n l2 P1 = some (o2, oP1) → zAt p l e ({ frames := 0, cells := 0, slots := 0, locals := 0 } : Room) s m [.ref (hM 0), .ref (hP1 0)].toArray below meth c (MQ below (zQv D cI cB (w2b cI cB hM M0 ++ w1 cI cB hP1 P10) A) [.ref (hM 0), .ref (hP1 0)].toArray s 0 0 A) A D 3 (w2b cI cB hM M ++ w1 cI cB hP1 oP1) [(0, .ref (hM 0)), (1, .ref (hP1 0)), (2, .int o2)] 98 [] → zAt p l e ({ frames := 0, cells := 0, slots := 0, locals := 0 } : Room) s m [.ref (hM 0), .ref (hP1 0)].toArray below meth c (MQ below (zQv D cI cB (w2b cI cB hM M0 ++ w1 cI cB hP1 P10) A) [.ref (hM 0), .ref (hP1 0)].toArray s 0 0 A) A D 3 (w2b cI cB hM M ++ w1 cI cB hP1 P1) [(0, .ref (hM 0)), (1, .ref (hP1 0)), (2, .int l2)] 46 [] := by
    intro M n
    induction n with
    | zero => intro l2 P1 o2 oP1 hf; simp [L_X2b_popInto_46] at hf
    | succ n ih =>
      intro l2 P1 o2 oP1 hf hk H locs ls hP hD hS hl
      rw [L_X2b_popInto_46] at hf
      refine lv_iload_n hx hb dX2_popInto_46 rfl (lv_at hl 2 rfl) ?_
      refine lv_bipush (v := 7) hx hb dX2_popInto_47 (by decide) ?_
      refine lv_icmp_ge (tgt := 98) hx hb dX2_popInto_49 (by decide) (fun c_8 => ?_) (fun c_8 => ?_)
      · replace hf := zit c_8 hf
        cases hf
        exact hk _ _ _ hP hD hS (lv_sub hl [0, 1, 2] rfl)
      · replace hf := zif c_8 hf
        refine lv_aload_n hx hb dX2_popInto_52 rfl (lv_at hl 1 rfl) ?_
        refine va_get (D := D) (ci := 1) (v := .ref (hP1 1)) (C := RX1) (T := TX1) (N := 2) hx hb hts hi1 hown hK hP 3 rfl rfl 0 (Nat.le_of_ble_eq_true rfl) (hts _ (List.mem_cons_of_mem _ wd_54)) (fun _ h9 => h9) rfl dX2_popInto_53 ?_
        refine lv_iload_n hx hb dX2_popInto_56 rfl (lv_at hl 2 rfl) ?_
        refine lv_aload_n hx hb dX2_popInto_57 rfl (lv_at hl 0 rfl) ?_
        refine va_get (D := D) (ci := 2) (v := .ref (hM 1)) (C := RX2) (T := TX2) (N := 5) hx hb hts hi2 hown hK hP 0 rfl rfl 1 (Nat.le_of_ble_eq_true rfl) (hts _ (List.mem_cons_of_mem _ wd_73)) (fun _ h9 => h9) rfl dX2_popInto_58 ?_
        refine lv_aload_n hx hb dX2_popInto_61 rfl (lv_at hl 0 rfl) ?_
        refine va_get (D := D) (ci := 2) (v := .int (M 4 0)) (C := RX2) (T := TX2) (N := 5) hx hb hts hi2 hown hK hP 0 rfl rfl 4 (Nat.le_of_ble_eq_true rfl) (hts _ (List.mem_cons_of_mem _ wd_77)) (fun _ h9 => h9) rfl dX2_popInto_62 ?_
        refine lv_bipush (v := 7) hx hb dX2_popInto_65 (by decide) ?_
        refine lv_imul hx hb dX2_popInto_67 ?_
        refine lv_iload_n hx hb dX2_popInto_68 rfl (lv_at hl 2 rfl) ?_
        refine lv_iadd hx hb dX2_popInto_69 ?_
        obtain ⟨i_v9, v9, e_v9, hf⟩ := zl_some hf
        refine va_iald (n := 14) (f := M 1) (cA := cI) hx hb hK hP 1 0 rfl rfl i_v9 dX2_popInto_70 ?_
        refine zt e_v9 ?_
        obtain ⟨i_P1_10, P1_10, e_P1_10, hf⟩ := zw_some hf
        refine va_iast (n := 7) (f := P1 0) (cA := cI) hx hb hK hP hD hS 4 0 rfl rfl i_P1_10 dX2_popInto_71 (fun H locs hP hD hS => ?_)
        have hP : va_P D vwCl (w2b cI cB hM M ++ w1 cI cB hP1 (zs P1 0 (upd (P1 0) l2.toNatClampNeg v9))) H := hP
        have hD : va_D A (w2b cI cB hM M ++ w1 cI cB hP1 (zs P1 0 (upd (P1 0) l2.toNatClampNeg v9))) := hD
        rw [← e_P1_10] at hP hD
        refine lv_aload_n hx hb dX2_popInto_72 rfl (lv_at hl 1 rfl) ?_
        refine va_get (D := D) (ci := 1) (v := .ref (hP1 2)) (C := RX1) (T := TX1) (N := 2) hx hb hts hi1 hown hK hP 3 rfl rfl 1 (Nat.le_of_ble_eq_true rfl) (hts _ (List.mem_cons_of_mem _ wd_56)) (fun _ h9 => h9) rfl dX2_popInto_73 ?_
        refine lv_iload_n hx hb dX2_popInto_76 rfl (lv_at hl 2 rfl) ?_
        refine lv_aload_n hx hb dX2_popInto_77 rfl (lv_at hl 0 rfl) ?_
        refine va_get (D := D) (ci := 2) (v := .ref (hM 2)) (C := RX2) (T := TX2) (N := 5) hx hb hts hi2 hown hK hP 0 rfl rfl 2 (Nat.le_of_ble_eq_true rfl) (hts _ (List.mem_cons_of_mem _ wd_74)) (fun _ h9 => h9) rfl dX2_popInto_78 ?_
        refine lv_aload_n hx hb dX2_popInto_81 rfl (lv_at hl 0 rfl) ?_
        refine va_get (D := D) (ci := 2) (v := .int (M 4 0)) (C := RX2) (T := TX2) (N := 5) hx hb hts hi2 hown hK hP 0 rfl rfl 4 (Nat.le_of_ble_eq_true rfl) (hts _ (List.mem_cons_of_mem _ wd_77)) (fun _ h9 => h9) rfl dX2_popInto_82 ?_
        refine lv_bipush (v := 7) hx hb dX2_popInto_85 (by decide) ?_
        refine lv_imul hx hb dX2_popInto_87 ?_
        refine lv_iload_n hx hb dX2_popInto_88 rfl (lv_at hl 2 rfl) ?_
        refine lv_iadd hx hb dX2_popInto_89 ?_
        obtain ⟨i_v11, v11, e_v11, hf⟩ := zl_some hf
        refine va_iald (n := 14) (f := M 2) (cA := cI) hx hb hK hP 2 0 rfl rfl i_v11 dX2_popInto_90 ?_
        refine zt e_v11 ?_
        obtain ⟨i_P1_12, P1_12, e_P1_12, hf⟩ := zw_some hf
        refine va_iast (n := 7) (f := P1_10 1) (cA := cI) hx hb hK hP hD hS 5 0 rfl rfl i_P1_12 dX2_popInto_91 (fun H locs hP hD hS => ?_)
        have hP : va_P D vwCl (w2b cI cB hM M ++ w1 cI cB hP1 (zs P1_10 1 (upd (P1_10 1) l2.toNatClampNeg v11))) H := hP
        have hD : va_D A (w2b cI cB hM M ++ w1 cI cB hP1 (zs P1_10 1 (upd (P1_10 1) l2.toNatClampNeg v11))) := hD
        rw [← e_P1_12] at hP hD
        obtain ⟨x13, e_x13, hf⟩ := zv_some hf
        refine lv_iinc (v := x13) (lv' := [(2, .int x13), (0, .ref (hM 0)), (1, .ref (hP1 0))]) hx hb dX2_popInto_92 hl (k := 2) rfl (by rw [e_x13]; rfl) (by decide) rfl (fun ls hl => ?_)
        refine lv_goto (tgt := 46) hx hb dX2_popInto_95 (by decide) ?_
        exact ih _ _ _ _ hf hk _ _ _ hP hD hS (lv_sub hl [1, 2, 0] rfl)
  unfold f_X2b_popInto at hf
  refine lv_aload_n hx hb dX2_popInto_0 rfl (lv_at hl 0 rfl) ?_
  refine va_get (D := D) (ci := 2) (v := .int (M 3 0)) (C := RX2) (T := TX2) (N := 5) hx hb hts hi2 hown hK hP 0 rfl rfl 3 (Nat.le_of_ble_eq_true rfl) (hts _ (List.mem_cons_of_mem _ wd_75)) (fun _ h9 => h9) rfl dX2_popInto_1 ?_
  refine lv_if_ne (tgt := 8) hx hb dX2_popInto_4 (by decide) (fun c_1 => ?_) (fun c_1 => ?_)
  · replace hf := zif c_1 hf
    refine lv_aload_n hx hb dX2_popInto_8 rfl (lv_at hl 0 rfl) ?_
    refine lv_dup hx hb dX2_popInto_9 rfl ?_
    refine va_get (D := D) (ci := 2) (v := .int (M 3 0)) (C := RX2) (T := TX2) (N := 5) hx hb hts hi2 hown hK hP 0 rfl rfl 3 (Nat.le_of_ble_eq_true rfl) (hts _ (List.mem_cons_of_mem _ wd_75)) (fun _ h9 => h9) rfl dX2_popInto_10 ?_
    refine lv_iconst (v := 1) hx hb dX2_popInto_13 (by decide) ?_
    refine lv_isub hx hb dX2_popInto_14 ?_
    obtain ⟨M_2, e_M_2, hf⟩ := zv_some hf
    refine va_put (D := D) (ci := 2) (v := .int ((M 3 0) - 1)) (ty := .int) (C := RX2) (T := TX2) (N := 5) hx hb hts hi2 tyX2 tyX2_ok nmX2 hown hK hP hD hS 0 rfl rfl 3 (Nat.le_of_ble_eq_true rfl) (hts _ (List.mem_cons_of_mem _ wd_75)) (fun _ h9 => h9) rfl (by decide +kernel) rfl rfl (Nat.le_of_ble_eq_true rfl) dX2_popInto_15 (fun H locs hP hD hS => ?_)
    have hP : va_P D vwCl (w2b cI cB hM (zs M 3 (fun _ => (M 3 0) - 1)) ++ w1 cI cB hP1 P1) H := hP
    have hD : va_D A (w2b cI cB hM (zs M 3 (fun _ => (M 3 0) - 1)) ++ w1 cI cB hP1 P1) := hD
    rw [← e_M_2] at hP hD
    refine lv_aload_n hx hb dX2_popInto_18 rfl (lv_at hl 0 rfl) ?_
    refine lv_aload_n hx hb dX2_popInto_19 rfl (lv_at hl 0 rfl) ?_
    refine va_get (D := D) (ci := 2) (v := .int (M_2 4 0)) (C := RX2) (T := TX2) (N := 5) hx hb hts hi2 hown hK hP 0 rfl rfl 4 (Nat.le_of_ble_eq_true rfl) (hts _ (List.mem_cons_of_mem _ wd_77)) (fun _ h9 => h9) rfl dX2_popInto_20 ?_
    obtain ⟨y4, hq5, hf⟩ := zb1_some hf
    have J6 : zAt p l e ({ frames := 0, cells := 0, slots := 0, locals := 0 } : Room) s m [.ref (hM 0), .ref (hP1 0)].toArray below meth c (MQ below (zQv D cI cB (w2b cI cB hM M0 ++ w1 cI cB hP1 P10) A) [.ref (hM 0), .ref (hP1 0)].toArray s 0 0 A) A D 3 (w2b cI cB hM M_2 ++ w1 cI cB hP1 P1) [(0, .ref (hM 0)), (1, .ref (hP1 0))] 41 [.int y4, .ref (hM 0)] := by
      intro H locs ls hP hD hS hl
      obtain ⟨M_7, e_M_7, hf⟩ := zv_some hf
      refine va_put (D := D) (ci := 2) (v := .int y4) (ty := .int) (C := RX2) (T := TX2) (N := 5) hx hb hts hi2 tyX2 tyX2_ok nmX2 hown hK hP hD hS 0 rfl rfl 4 (Nat.le_of_ble_eq_true rfl) (hts _ (List.mem_cons_of_mem _ wd_77)) (fun _ h9 => h9) rfl (by decide +kernel) rfl rfl (Nat.le_of_ble_eq_true rfl) dX2_popInto_41 (fun H locs hP hD hS => ?_)
      have hP : va_P D vwCl (w2b cI cB hM (zs M_2 4 (fun _ => y4)) ++ w1 cI cB hP1 P1) H := hP
      have hD : va_D A (w2b cI cB hM (zs M_2 4 (fun _ => y4)) ++ w1 cI cB hP1 P1) := hD
      rw [← e_M_7] at hP hD
      refine lv_iconst (v := 0) hx hb dX2_popInto_44 (by decide) ?_
      refine lv_istore_n (lv' := [(2, .int 0), (0, .ref (hM 0)), (1, .ref (hP1 0))]) hx hb dX2_popInto_45 rfl hl (by decide) rfl (fun ls hl => ?_)
      obtain ⟨x14, P1_15, hq16, hf⟩ := zb2_some hf
      refine L46 _ _ _ _ _ _ hq16 ?_ _ _ _ hP hD hS (lv_sub hl [1, 2, 0] rfl)
      intro H locs ls hP hD hS hl
      cases hf
      exact zretV hx hb hr hlocks hK hP hD hS dX2_popInto_98
    replace hf := hq5
    refine lv_if_le (tgt := 35) hx hb dX2_popInto_23 (by decide) (fun c_3 => ?_) (fun c_3 => ?_)
    · replace hf := zit c_3 hf
      refine lv_aload_n hx hb dX2_popInto_35 rfl (lv_at hl 0 rfl) ?_
      refine va_get (D := D) (ci := 2) (v := .int (M_2 0 0)) (C := RX2) (T := TX2) (N := 5) hx hb hts hi2 hown hK hP 0 rfl rfl 0 (Nat.le_of_ble_eq_true rfl) (hts _ (List.mem_cons_of_mem _ wd_72)) (fun _ h9 => h9) rfl dX2_popInto_36 ?_
      refine lv_iconst (v := 1) hx hb dX2_popInto_39 (by decide) ?_
      refine lv_isub hx hb dX2_popInto_40 ?_
      cases hf
      exact J6 _ _ _ hP hD hS (lv_sub hl [0, 1] rfl)
    · replace hf := zif c_3 hf
      refine lv_aload_n hx hb dX2_popInto_26 rfl (lv_at hl 0 rfl) ?_
      refine va_get (D := D) (ci := 2) (v := .int (M_2 4 0)) (C := RX2) (T := TX2) (N := 5) hx hb hts hi2 hown hK hP 0 rfl rfl 4 (Nat.le_of_ble_eq_true rfl) (hts _ (List.mem_cons_of_mem _ wd_77)) (fun _ h9 => h9) rfl dX2_popInto_27 ?_
      refine lv_iconst (v := 1) hx hb dX2_popInto_30 (by decide) ?_
      refine lv_isub hx hb dX2_popInto_31 ?_
      refine lv_goto (tgt := 41) hx hb dX2_popInto_32 (by decide) ?_
      cases hf
      exact J6 _ _ _ hP hD hS (lv_sub hl [0, 1] rfl)
  · replace hf := zit c_1 hf
    cases hf
    exact zretV hx hb hr hlocks hK hP hD hS dX2_popInto_7
def f_X4_add (M : zMm) (a1 : Int32) (a2 : Int32) : Option (zMm) := if (12 : Int32) ≤ (M 2 0) then some M else zw 12 M 0 (M 2 0) a1 (fun M_2 => zw 12 M_2 1 (M_2 2 0) a2 (fun M_3 => zv (zs M_3 2 (fun _ => (M_3 2 0) + 1)) (fun (M_4 : zMm) => some M_4)))
abbrev ww_X4_add : List Cond := Cond.code yX4_add cX4_add 3 none :: wG
theorem q_X4_add : yX4_add.cls = RX4 ∧ yX4_add.cls ≠ "java/lang/invoke/MethodHandle" ∧ yX4_add.cls ≠ "java/lang/invoke/VarHandle" ∧ (parseMethodDescriptor yX4_add.desc).map (fun d => d.parameters.length) = some 2 := by decide +kernel
set_option maxHeartbeats 4000000 in
set_option maxRecDepth 100000 in
theorem c_X4_add (l : Launch) (D : va_G) (cI cB : ClassId) (hM : Nat → Nat) (M : zMm) (a1 : Int32) (a2 : Int32) (M0 : zMm) (hf : f_X4_add M a1 a2 = some M0) : zMv l yX4_add ww_X4_add ({ frames := 0, cells := 0, slots := 0, locals := 0 } : Room) D cI cB [.ref (hM 0), .int a1, .int a2] (w4 cI cB hM M) (w4 cI cB hM M0) := by
  refine zofV (cc := cX4_add) (maxL := 3) (ret := none) (by decide +kernel) rfl (Nat.le_of_ble_eq_true rfl) ?_
  intro p e s m below meth c A ls hx hb hml hr hown hts hlocks hK hP hD hS hA hl
  have hl : lv_has ls 3 [(0, .ref (hM 0)), (1, .int a1), (2, .int a2)] := hl
  have hown : s.vm.findClass RX4 = some m.cls := hown
  have hG : ∀ w ∈ wG, w ∈ ww_X4_add := fun w h => List.mem_cons_of_mem _ h
  have hi4 : ∀ w ∈ wsX40, w ∈ ww_X4_add := fun w h => List.mem_cons_of_mem _ (z_inX4 w h)
  unfold f_X4_add at hf
  refine lv_aload_n hx hb dX4_add_0 rfl (lv_at hl 0 rfl) ?_
  refine va_get (D := D) (ci := 4) (v := .int (M 2 0)) (C := RX4) (T := TX4) (N := 3) hx hb hts hi4 hown hK hP 0 rfl rfl 2 (Nat.le_of_ble_eq_true rfl) (hts _ (List.mem_cons_of_mem _ wd_118)) (fun _ h9 => h9) rfl dX4_add_1 ?_
  refine lv_bipush (v := 12) hx hb dX4_add_4 (by decide) ?_
  refine lv_icmp_ge (tgt := 39) hx hb dX4_add_6 (by decide) (fun c_1 => ?_) (fun c_1 => ?_)
  · replace hf := zit c_1 hf
    cases hf
    exact zretV hx hb hr hlocks hK hP hD hS dX4_add_39
  · replace hf := zif c_1 hf
    refine lv_aload_n hx hb dX4_add_9 rfl (lv_at hl 0 rfl) ?_
    refine va_get (D := D) (ci := 4) (v := .ref (hM 1)) (C := RX4) (T := TX4) (N := 3) hx hb hts hi4 hown hK hP 0 rfl rfl 0 (Nat.le_of_ble_eq_true rfl) (hts _ (List.mem_cons_of_mem _ wd_115)) (fun _ h9 => h9) rfl dX4_add_10 ?_
    refine lv_aload_n hx hb dX4_add_13 rfl (lv_at hl 0 rfl) ?_
    refine va_get (D := D) (ci := 4) (v := .int (M 2 0)) (C := RX4) (T := TX4) (N := 3) hx hb hts hi4 hown hK hP 0 rfl rfl 2 (Nat.le_of_ble_eq_true rfl) (hts _ (List.mem_cons_of_mem _ wd_118)) (fun _ h9 => h9) rfl dX4_add_14 ?_
    refine lv_iload_n hx hb dX4_add_17 rfl (lv_at hl 1 rfl) ?_
    obtain ⟨i_M_2, M_2, e_M_2, hf⟩ := zw_some hf
    refine va_iast (n := 12) (f := M 0) (cA := cI) hx hb hK hP hD hS 1 0 rfl rfl i_M_2 dX4_add_18 (fun H locs hP hD hS => ?_)
    have hP : va_P D vwCl (w4 cI cB hM (zs M 0 (upd (M 0) (M 2 0).toNatClampNeg a1))) H := hP
    have hD : va_D A (w4 cI cB hM (zs M 0 (upd (M 0) (M 2 0).toNatClampNeg a1))) := hD
    rw [← e_M_2] at hP hD
    refine lv_aload_n hx hb dX4_add_19 rfl (lv_at hl 0 rfl) ?_
    refine va_get (D := D) (ci := 4) (v := .ref (hM 2)) (C := RX4) (T := TX4) (N := 3) hx hb hts hi4 hown hK hP 0 rfl rfl 1 (Nat.le_of_ble_eq_true rfl) (hts _ (List.mem_cons_of_mem _ wd_116)) (fun _ h9 => h9) rfl dX4_add_20 ?_
    refine lv_aload_n hx hb dX4_add_23 rfl (lv_at hl 0 rfl) ?_
    refine va_get (D := D) (ci := 4) (v := .int (M_2 2 0)) (C := RX4) (T := TX4) (N := 3) hx hb hts hi4 hown hK hP 0 rfl rfl 2 (Nat.le_of_ble_eq_true rfl) (hts _ (List.mem_cons_of_mem _ wd_118)) (fun _ h9 => h9) rfl dX4_add_24 ?_
    refine lv_iload_n hx hb dX4_add_27 rfl (lv_at hl 2 rfl) ?_
    obtain ⟨i_M_3, M_3, e_M_3, hf⟩ := zw_some hf
    refine va_iast (n := 12) (f := M_2 1) (cA := cI) hx hb hK hP hD hS 2 0 rfl rfl i_M_3 dX4_add_28 (fun H locs hP hD hS => ?_)
    have hP : va_P D vwCl (w4 cI cB hM (zs M_2 1 (upd (M_2 1) (M_2 2 0).toNatClampNeg a2))) H := hP
    have hD : va_D A (w4 cI cB hM (zs M_2 1 (upd (M_2 1) (M_2 2 0).toNatClampNeg a2))) := hD
    rw [← e_M_3] at hP hD
    refine lv_aload_n hx hb dX4_add_29 rfl (lv_at hl 0 rfl) ?_
    refine lv_dup hx hb dX4_add_30 rfl ?_
    refine va_get (D := D) (ci := 4) (v := .int (M_3 2 0)) (C := RX4) (T := TX4) (N := 3) hx hb hts hi4 hown hK hP 0 rfl rfl 2 (Nat.le_of_ble_eq_true rfl) (hts _ (List.mem_cons_of_mem _ wd_118)) (fun _ h9 => h9) rfl dX4_add_31 ?_
    refine lv_iconst (v := 1) hx hb dX4_add_34 (by decide) ?_
    refine lv_iadd hx hb dX4_add_35 ?_
    obtain ⟨M_4, e_M_4, hf⟩ := zv_some hf
    refine va_put (D := D) (ci := 4) (v := .int ((M_3 2 0) + 1)) (ty := .int) (C := RX4) (T := TX4) (N := 3) hx hb hts hi4 tyX4 tyX4_ok nmX4 hown hK hP hD hS 0 rfl rfl 2 (Nat.le_of_ble_eq_true rfl) (hts _ (List.mem_cons_of_mem _ wd_118)) (fun _ h9 => h9) rfl (by decide +kernel) rfl rfl (Nat.le_of_ble_eq_true rfl) dX4_add_36 (fun H locs hP hD hS => ?_)
    have hP : va_P D vwCl (w4 cI cB hM (zs M_3 2 (fun _ => (M_3 2 0) + 1))) H := hP
    have hD : va_D A (w4 cI cB hM (zs M_3 2 (fun _ => (M_3 2 0) + 1))) := hD
    rw [← e_M_4] at hP hD
    cases hf
    exact zretV hx hb hr hlocks hK hP hD hS dX4_add_39
def L_X4_countIn_4 (M : zMm) (l1 : Int32) : Nat → Int32 → Int32 → Option (Int32 × Int32)
  | 0, _, _ => none
  | n + 1, l2, l3 => if (M 2 0) ≤ l3 then some (l2, l3) else zl 12 (M 0) l3 (fun v2 => zb1 (if v2 = l1 then some (1 : Int32) else some (0 : Int32)) (fun (y4 : Int32) => zv (l2 + y4) (fun (x7 : Int32) => zv (l3 + 1) (fun (x8 : Int32) => L_X4_countIn_4 M l1 n x7 x8))))
def f_X4_countIn (M : zMm) (a1 : Int32) : Option (Int32) := zb2 (L_X4_countIn_4 M a1 100000 0 0) (fun (x9 : Int32) (x10 : Int32) => some x9)
abbrev ww_X4_countIn : List Cond := Cond.code yX4_countIn cX4_countIn 4 (some .int) :: wG
theorem q_X4_countIn : yX4_countIn.cls = RX4 ∧ yX4_countIn.cls ≠ "java/lang/invoke/MethodHandle" ∧ yX4_countIn.cls ≠ "java/lang/invoke/VarHandle" ∧ (parseMethodDescriptor yX4_countIn.desc).map (fun d => d.parameters.length) = some 1 := by decide +kernel
set_option maxHeartbeats 4000000 in
set_option maxRecDepth 100000 in
theorem c_X4_countIn (l : Launch) (D : va_G) (cI cB : ClassId) (hM : Nat → Nat) (M : zMm) (a1 : Int32) (r0 : Int32) (hf : f_X4_countIn M a1 = some r0) : zMi l yX4_countIn ww_X4_countIn ({ frames := 0, cells := 0, slots := 0, locals := 0 } : Room) D cI cB [.ref (hM 0), .int a1] [k4_0 cI cB hM M, k4_1 cI cB hM M] r0 [k4_0 cI cB hM M, k4_1 cI cB hM M] := by
  refine zofI (cc := cX4_countIn) (maxL := 4) (ret := (some .int)) (by decide +kernel) rfl (Nat.le_of_ble_eq_true rfl) ?_
  intro p e s m below meth c A ls hx hb hml hr hown hts hlocks hK hP hD hS hA hl
  have hl : lv_has ls 4 [(0, .ref (hM 0)), (1, .int a1)] := hl
  have hown : s.vm.findClass RX4 = some m.cls := hown
  have hG : ∀ w ∈ wG, w ∈ ww_X4_countIn := fun w h => List.mem_cons_of_mem _ h
  have hi4 : ∀ w ∈ wsX40, w ∈ ww_X4_countIn := fun w h => List.mem_cons_of_mem _ (z_inX4 w h)
  have L4 : ∀ (M : zMm) (l1 : Int32) (n : Nat) (l2 : Int32) (l3 : Int32) (o2 : Int32) (o3 : Int32), L_X4_countIn_4 M l1 n l2 l3 = some (o2, o3) → zAt p l e ({ frames := 0, cells := 0, slots := 0, locals := 0 } : Room) s m [.ref (hM 0), .int a1].toArray below meth c (MQ below (zQi D cI cB r0 [k4_0 cI cB hM M, k4_1 cI cB hM M] A) [.ref (hM 0), .int a1].toArray s 0 0 A) A D 4 [k4_0 cI cB hM M, k4_1 cI cB hM M] [(0, .ref (hM 0)), (1, .int l1), (2, .int o2), (3, .int o3)] 36 [] → zAt p l e ({ frames := 0, cells := 0, slots := 0, locals := 0 } : Room) s m [.ref (hM 0), .int a1].toArray below meth c (MQ below (zQi D cI cB r0 [k4_0 cI cB hM M, k4_1 cI cB hM M] A) [.ref (hM 0), .int a1].toArray s 0 0 A) A D 4 [k4_0 cI cB hM M, k4_1 cI cB hM M] [(0, .ref (hM 0)), (1, .int l1), (2, .int l2), (3, .int l3)] 4 [] := by
    intro M l1 n
    induction n with
    | zero => intro l2 l3 o2 o3 hf; simp [L_X4_countIn_4] at hf
    | succ n ih =>
      intro l2 l3 o2 o3 hf hk H locs ls hP hD hS hl
      rw [L_X4_countIn_4] at hf
      refine lv_iload_n hx hb dX4_countIn_4 rfl (lv_at hl 3 rfl) ?_
      refine lv_aload_n hx hb dX4_countIn_5 rfl (lv_at hl 0 rfl) ?_
      refine va_get (D := D) (ci := 4) (v := .int (M 2 0)) (C := RX4) (T := TX4) (N := 3) hx hb hts hi4 hown hK hP 0 rfl rfl 2 (Nat.le_of_ble_eq_true rfl) (hts _ (List.mem_cons_of_mem _ wd_118)) (fun _ h9 => h9) rfl dX4_countIn_6 ?_
      refine lv_icmp_ge (tgt := 36) hx hb dX4_countIn_9 (by decide) (fun c_1 => ?_) (fun c_1 => ?_)
      · replace hf := zit c_1 hf
        cases hf
        exact hk _ _ _ hP hD hS (lv_sub hl [0, 1, 2, 3] rfl)
      · replace hf := zif c_1 hf
        refine lv_iload_n hx hb dX4_countIn_12 rfl (lv_at hl 2 rfl) ?_
        refine lv_aload_n hx hb dX4_countIn_13 rfl (lv_at hl 0 rfl) ?_
        refine va_get (D := D) (ci := 4) (v := .ref (hM 1)) (C := RX4) (T := TX4) (N := 3) hx hb hts hi4 hown hK hP 0 rfl rfl 0 (Nat.le_of_ble_eq_true rfl) (hts _ (List.mem_cons_of_mem _ wd_115)) (fun _ h9 => h9) rfl dX4_countIn_14 ?_
        refine lv_iload_n hx hb dX4_countIn_17 rfl (lv_at hl 3 rfl) ?_
        obtain ⟨i_v2, v2, e_v2, hf⟩ := zl_some hf
        refine va_iald (n := 12) (f := M 0) (cA := cI) hx hb hK hP 1 0 rfl rfl i_v2 dX4_countIn_18 ?_
        refine zt e_v2 ?_
        refine lv_iload_n hx hb dX4_countIn_19 rfl (lv_at hl 1 rfl) ?_
        obtain ⟨y4, hq5, hf⟩ := zb1_some hf
        have J6 : zAt p l e ({ frames := 0, cells := 0, slots := 0, locals := 0 } : Room) s m [.ref (hM 0), .int a1].toArray below meth c (MQ below (zQi D cI cB r0 [k4_0 cI cB hM M, k4_1 cI cB hM M] A) [.ref (hM 0), .int a1].toArray s 0 0 A) A D 4 [k4_0 cI cB hM M, k4_1 cI cB hM M] [(0, .ref (hM 0)), (1, .int l1), (2, .int l2), (3, .int l3)] 28 [.int y4, .int l2] := by
          intro H locs ls hP hD hS hl
          refine lv_iadd hx hb dX4_countIn_28 ?_
          obtain ⟨x7, e_x7, hf⟩ := zv_some hf
          refine zt e_x7 ?_
          refine lv_istore_n (lv' := [(2, .int x7), (0, .ref (hM 0)), (1, .int l1), (3, .int l3)]) hx hb dX4_countIn_29 rfl hl (by decide) rfl (fun ls hl => ?_)
          obtain ⟨x8, e_x8, hf⟩ := zv_some hf
          refine lv_iinc (v := x8) (lv' := [(3, .int x8), (2, .int x7), (0, .ref (hM 0)), (1, .int l1)]) hx hb dX4_countIn_30 hl (k := 3) rfl (by rw [e_x8]; rfl) (by decide) rfl (fun ls hl => ?_)
          refine lv_goto (tgt := 4) hx hb dX4_countIn_33 (by decide) ?_
          exact ih _ _ _ _ hf hk _ _ _ hP hD hS (lv_sub hl [2, 3, 1, 0] rfl)
        replace hf := hq5
        refine lv_icmp_ne (tgt := 27) hx hb dX4_countIn_20 (by decide) (fun c_3 => ?_) (fun c_3 => ?_)
        · replace hf := zif c_3 hf
          refine lv_iconst (v := 0) hx hb dX4_countIn_27 (by decide) ?_
          cases hf
          exact J6 _ _ _ hP hD hS (lv_sub hl [0, 1, 2, 3] rfl)
        · replace hf := zit c_3 hf
          refine lv_iconst (v := 1) hx hb dX4_countIn_23 (by decide) ?_
          refine lv_goto (tgt := 28) hx hb dX4_countIn_24 (by decide) ?_
          cases hf
          exact J6 _ _ _ hP hD hS (lv_sub hl [0, 1, 2, 3] rfl)
  unfold f_X4_countIn at hf
  refine lv_iconst (v := 0) hx hb dX4_countIn_0 (by decide) ?_
  refine lv_istore_n (lv' := [(2, .int 0), (0, .ref (hM 0)), (1, .int a1)]) hx hb dX4_countIn_1 rfl hl (by decide) rfl (fun ls hl => ?_)
  refine lv_iconst (v := 0) hx hb dX4_countIn_2 (by decide) ?_
  refine lv_istore_n (lv' := [(3, .int 0), (2, .int 0), (0, .ref (hM 0)), (1, .int a1)]) hx hb dX4_countIn_3 rfl hl (by decide) rfl (fun ls hl => ?_)
  obtain ⟨x9, x10, hq11, hf⟩ := zb2_some hf
  refine L4 _ _ _ _ _ _ _ hq11 ?_ _ _ _ hP hD hS (lv_sub hl [2, 3, 1, 0] rfl)
  intro H locs ls hP hD hS hl
  refine lv_iload_n hx hb dX4_countIn_36 rfl (lv_at hl 2 rfl) ?_
  cases hf
  exact zretI hx hb hr hlocks hK hP hD hS dX4_countIn_37
def f_X6_add (M : zMm) (a1 : Int32) (a2 : Int32) (a3 : Int32) : Option (zMm) := if (10 : Int32) ≤ (M 3 0) then some M else zw 10 M 0 (M 3 0) a1 (fun M_2 => zw 10 M_2 1 (M_2 3 0) a2 (fun M_3 => zw 10 M_3 2 (M_3 3 0) a3 (fun M_4 => zv (zs M_4 3 (fun _ => (M_4 3 0) + 1)) (fun (M_5 : zMm) => some M_5))))
abbrev ww_X6_add : List Cond := Cond.code yX6_add cX6_add 4 none :: wG
theorem q_X6_add : yX6_add.cls = RX6 ∧ yX6_add.cls ≠ "java/lang/invoke/MethodHandle" ∧ yX6_add.cls ≠ "java/lang/invoke/VarHandle" ∧ (parseMethodDescriptor yX6_add.desc).map (fun d => d.parameters.length) = some 3 := by decide +kernel
set_option maxHeartbeats 4000000 in
set_option maxRecDepth 100000 in
theorem c_X6_add (l : Launch) (D : va_G) (cI cB : ClassId) (hM : Nat → Nat) (M : zMm) (a1 : Int32) (a2 : Int32) (a3 : Int32) (M0 : zMm) (hf : f_X6_add M a1 a2 a3 = some M0) : zMv l yX6_add ww_X6_add ({ frames := 0, cells := 0, slots := 0, locals := 0 } : Room) D cI cB [.ref (hM 0), .int a1, .int a2, .int a3] (w6 cI cB hM M) (w6 cI cB hM M0) := by
  refine zofV (cc := cX6_add) (maxL := 4) (ret := none) (by decide +kernel) rfl (Nat.le_of_ble_eq_true rfl) ?_
  intro p e s m below meth c A ls hx hb hml hr hown hts hlocks hK hP hD hS hA hl
  have hl : lv_has ls 4 [(0, .ref (hM 0)), (1, .int a1), (2, .int a2), (3, .int a3)] := hl
  have hown : s.vm.findClass RX6 = some m.cls := hown
  have hG : ∀ w ∈ wG, w ∈ ww_X6_add := fun w h => List.mem_cons_of_mem _ h
  have hi6 : ∀ w ∈ wsX60, w ∈ ww_X6_add := fun w h => List.mem_cons_of_mem _ (z_inX6 w h)
  unfold f_X6_add at hf
  refine lv_aload_n hx hb dX6_add_0 rfl (lv_at hl 0 rfl) ?_
  refine va_get (D := D) (ci := 6) (v := .int (M 3 0)) (C := RX6) (T := TX6) (N := 4) hx hb hts hi6 hown hK hP 0 rfl rfl 3 (Nat.le_of_ble_eq_true rfl) (hts _ (List.mem_cons_of_mem _ wd_98)) (fun _ h9 => h9) rfl dX6_add_1 ?_
  refine lv_bipush (v := 10) hx hb dX6_add_4 (by decide) ?_
  refine lv_icmp_ge (tgt := 49) hx hb dX6_add_6 (by decide) (fun c_1 => ?_) (fun c_1 => ?_)
  · replace hf := zit c_1 hf
    cases hf
    exact zretV hx hb hr hlocks hK hP hD hS dX6_add_49
  · replace hf := zif c_1 hf
    refine lv_aload_n hx hb dX6_add_9 rfl (lv_at hl 0 rfl) ?_
    refine va_get (D := D) (ci := 6) (v := .ref (hM 1)) (C := RX6) (T := TX6) (N := 4) hx hb hts hi6 hown hK hP 0 rfl rfl 0 (Nat.le_of_ble_eq_true rfl) (hts _ (List.mem_cons_of_mem _ wd_95)) (fun _ h9 => h9) rfl dX6_add_10 ?_
    refine lv_aload_n hx hb dX6_add_13 rfl (lv_at hl 0 rfl) ?_
    refine va_get (D := D) (ci := 6) (v := .int (M 3 0)) (C := RX6) (T := TX6) (N := 4) hx hb hts hi6 hown hK hP 0 rfl rfl 3 (Nat.le_of_ble_eq_true rfl) (hts _ (List.mem_cons_of_mem _ wd_98)) (fun _ h9 => h9) rfl dX6_add_14 ?_
    refine lv_iload_n hx hb dX6_add_17 rfl (lv_at hl 1 rfl) ?_
    obtain ⟨i_M_2, M_2, e_M_2, hf⟩ := zw_some hf
    refine va_iast (n := 10) (f := M 0) (cA := cI) hx hb hK hP hD hS 1 0 rfl rfl i_M_2 dX6_add_18 (fun H locs hP hD hS => ?_)
    have hP : va_P D vwCl (w6 cI cB hM (zs M 0 (upd (M 0) (M 3 0).toNatClampNeg a1))) H := hP
    have hD : va_D A (w6 cI cB hM (zs M 0 (upd (M 0) (M 3 0).toNatClampNeg a1))) := hD
    rw [← e_M_2] at hP hD
    refine lv_aload_n hx hb dX6_add_19 rfl (lv_at hl 0 rfl) ?_
    refine va_get (D := D) (ci := 6) (v := .ref (hM 2)) (C := RX6) (T := TX6) (N := 4) hx hb hts hi6 hown hK hP 0 rfl rfl 1 (Nat.le_of_ble_eq_true rfl) (hts _ (List.mem_cons_of_mem _ wd_96)) (fun _ h9 => h9) rfl dX6_add_20 ?_
    refine lv_aload_n hx hb dX6_add_23 rfl (lv_at hl 0 rfl) ?_
    refine va_get (D := D) (ci := 6) (v := .int (M_2 3 0)) (C := RX6) (T := TX6) (N := 4) hx hb hts hi6 hown hK hP 0 rfl rfl 3 (Nat.le_of_ble_eq_true rfl) (hts _ (List.mem_cons_of_mem _ wd_98)) (fun _ h9 => h9) rfl dX6_add_24 ?_
    refine lv_iload_n hx hb dX6_add_27 rfl (lv_at hl 2 rfl) ?_
    obtain ⟨i_M_3, M_3, e_M_3, hf⟩ := zw_some hf
    refine va_iast (n := 10) (f := M_2 1) (cA := cI) hx hb hK hP hD hS 2 0 rfl rfl i_M_3 dX6_add_28 (fun H locs hP hD hS => ?_)
    have hP : va_P D vwCl (w6 cI cB hM (zs M_2 1 (upd (M_2 1) (M_2 3 0).toNatClampNeg a2))) H := hP
    have hD : va_D A (w6 cI cB hM (zs M_2 1 (upd (M_2 1) (M_2 3 0).toNatClampNeg a2))) := hD
    rw [← e_M_3] at hP hD
    refine lv_aload_n hx hb dX6_add_29 rfl (lv_at hl 0 rfl) ?_
    refine va_get (D := D) (ci := 6) (v := .ref (hM 3)) (C := RX6) (T := TX6) (N := 4) hx hb hts hi6 hown hK hP 0 rfl rfl 2 (Nat.le_of_ble_eq_true rfl) (hts _ (List.mem_cons_of_mem _ wd_97)) (fun _ h9 => h9) rfl dX6_add_30 ?_
    refine lv_aload_n hx hb dX6_add_33 rfl (lv_at hl 0 rfl) ?_
    refine va_get (D := D) (ci := 6) (v := .int (M_3 3 0)) (C := RX6) (T := TX6) (N := 4) hx hb hts hi6 hown hK hP 0 rfl rfl 3 (Nat.le_of_ble_eq_true rfl) (hts _ (List.mem_cons_of_mem _ wd_98)) (fun _ h9 => h9) rfl dX6_add_34 ?_
    refine lv_iload_n hx hb dX6_add_37 rfl (lv_at hl 3 rfl) ?_
    obtain ⟨i_M_4, M_4, e_M_4, hf⟩ := zw_some hf
    refine va_iast (n := 10) (f := M_3 2) (cA := cI) hx hb hK hP hD hS 3 0 rfl rfl i_M_4 dX6_add_38 (fun H locs hP hD hS => ?_)
    have hP : va_P D vwCl (w6 cI cB hM (zs M_3 2 (upd (M_3 2) (M_3 3 0).toNatClampNeg a3))) H := hP
    have hD : va_D A (w6 cI cB hM (zs M_3 2 (upd (M_3 2) (M_3 3 0).toNatClampNeg a3))) := hD
    rw [← e_M_4] at hP hD
    refine lv_aload_n hx hb dX6_add_39 rfl (lv_at hl 0 rfl) ?_
    refine lv_dup hx hb dX6_add_40 rfl ?_
    refine va_get (D := D) (ci := 6) (v := .int (M_4 3 0)) (C := RX6) (T := TX6) (N := 4) hx hb hts hi6 hown hK hP 0 rfl rfl 3 (Nat.le_of_ble_eq_true rfl) (hts _ (List.mem_cons_of_mem _ wd_98)) (fun _ h9 => h9) rfl dX6_add_41 ?_
    refine lv_iconst (v := 1) hx hb dX6_add_44 (by decide) ?_
    refine lv_iadd hx hb dX6_add_45 ?_
    obtain ⟨M_5, e_M_5, hf⟩ := zv_some hf
    refine va_put (D := D) (ci := 6) (v := .int ((M_4 3 0) + 1)) (ty := .int) (C := RX6) (T := TX6) (N := 4) hx hb hts hi6 tyX6 tyX6_ok nmX6 hown hK hP hD hS 0 rfl rfl 3 (Nat.le_of_ble_eq_true rfl) (hts _ (List.mem_cons_of_mem _ wd_98)) (fun _ h9 => h9) rfl (by decide +kernel) rfl rfl (Nat.le_of_ble_eq_true rfl) dX6_add_46 (fun H locs hP hD hS => ?_)
    have hP : va_P D vwCl (w6 cI cB hM (zs M_4 3 (fun _ => (M_4 3 0) + 1))) H := hP
    have hD : va_D A (w6 cI cB hM (zs M_4 3 (fun _ => (M_4 3 0) + 1))) := hD
    rw [← e_M_5] at hP hD
    cases hf
    exact zretV hx hb hr hlocks hK hP hD hS dX6_add_49
def L_X6_agreeWith_2 (M : zMm) (l1 : Int32) (l2 : Int32) : Nat → Int32 → Option (Int32)
  | 0, _ => none
  | n + 1, l3 => if (M 3 0) ≤ l3 then some (1 : Int32) else zl 10 (M 0) l3 (fun v2 => if v2 = l1 then zl 10 (M 1) l3 (fun v5 => zb1 (f_X5_byInch v5 l2) (fun (r6 : Int32) => zl 10 (M 2) l3 (fun v8 => if r6 = v8 then zv (l3 + 1) (fun (x10 : Int32) => L_X6_agreeWith_2 M l1 l2 n x10) else some (0 : Int32)))) else zv (l3 + 1) (fun (x4 : Int32) => L_X6_agreeWith_2 M l1 l2 n x4))
def f_X6_agreeWith (M : zMm) (a1 : Int32) (a2 : Int32) : Option (Int32) := L_X6_agreeWith_2 M a1 a2 100000 0
abbrev ww_X6_agreeWith : List Cond := Cond.code yX6_agreeWith cX6_agreeWith 4 (some .boolean) :: wG
theorem q_X6_agreeWith : yX6_agreeWith.cls = RX6 ∧ yX6_agreeWith.cls ≠ "java/lang/invoke/MethodHandle" ∧ yX6_agreeWith.cls ≠ "java/lang/invoke/VarHandle" ∧ (parseMethodDescriptor yX6_agreeWith.desc).map (fun d => d.parameters.length) = some 2 := by decide +kernel
set_option maxHeartbeats 4000000 in
set_option maxRecDepth 100000 in
theorem c_X6_agreeWith (l : Launch) (D : va_G) (cI cB : ClassId) (hM : Nat → Nat) (M : zMm) (a1 : Int32) (a2 : Int32) (r0 : Int32) (hf : f_X6_agreeWith M a1 a2 = some r0) : zMi l yX6_agreeWith ww_X6_agreeWith ({ frames := 1, cells := 0, slots := 0, locals := 21 } : Room) D cI cB [.ref (hM 0), .int a1, .int a2] (w6 cI cB hM M) r0 (w6 cI cB hM M) := by
  refine zofI (cc := cX6_agreeWith) (maxL := 4) (ret := (some .boolean)) (by decide +kernel) rfl (Nat.le_of_ble_eq_true rfl) ?_
  intro p e s m below meth c A ls hx hb hml hr hown hts hlocks hK hP hD hS hA hl
  have hl : lv_has ls 4 [(0, .ref (hM 0)), (1, .int a1), (2, .int a2)] := hl
  have hown : s.vm.findClass RX6 = some m.cls := hown
  have hG : ∀ w ∈ wG, w ∈ ww_X6_agreeWith := fun w h => List.mem_cons_of_mem _ h
  have hi6 : ∀ w ∈ wsX60, w ∈ ww_X6_agreeWith := fun w h => List.mem_cons_of_mem _ (z_inX6 w h)
  have L2 : ∀ (M : zMm) (l1 : Int32) (l2 : Int32) (n : Nat) (l3 : Int32), L_X6_agreeWith_2 M l1 l2 n l3 = some r0 → zAt p l e ({ frames := 1, cells := 0, slots := 0, locals := 21 } : Room) s m [.ref (hM 0), .int a1, .int a2].toArray below meth c (MQ below (zQi D cI cB r0 (w6 cI cB hM M) A) [.ref (hM 0), .int a1, .int a2].toArray s 0 0 A) A D 4 (w6 cI cB hM M) [(0, .ref (hM 0)), (1, .int l1), (2, .int l2), (3, .int l3)] 2 [] := by
    intro M l1 l2 n
    induction n with
    | zero => intro l3 hf; simp [L_X6_agreeWith_2] at hf
    | succ n ih =>
      intro l3 hf H locs ls hP hD hS hl
      rw [L_X6_agreeWith_2] at hf
      refine lv_iload_n hx hb dX6_agreeWith_2 rfl (lv_at hl 3 rfl) ?_
      refine lv_aload_n hx hb dX6_agreeWith_3 rfl (lv_at hl 0 rfl) ?_
      refine va_get (D := D) (ci := 6) (v := .int (M 3 0)) (C := RX6) (T := TX6) (N := 4) hx hb hts hi6 hown hK hP 0 rfl rfl 3 (Nat.le_of_ble_eq_true rfl) (hts _ (List.mem_cons_of_mem _ wd_98)) (fun _ h9 => h9) rfl dX6_agreeWith_4 ?_
      refine lv_icmp_ge (tgt := 47) hx hb dX6_agreeWith_7 (by decide) (fun c_1 => ?_) (fun c_1 => ?_)
      · replace hf := zit c_1 hf
        refine lv_iconst (v := 1) hx hb dX6_agreeWith_47 (by decide) ?_
        cases hf
        exact zretB hx hb hr hlocks rfl hK hP hD hS dX6_agreeWith_48
      · replace hf := zif c_1 hf
        refine lv_aload_n hx hb dX6_agreeWith_10 rfl (lv_at hl 0 rfl) ?_
        refine va_get (D := D) (ci := 6) (v := .ref (hM 1)) (C := RX6) (T := TX6) (N := 4) hx hb hts hi6 hown hK hP 0 rfl rfl 0 (Nat.le_of_ble_eq_true rfl) (hts _ (List.mem_cons_of_mem _ wd_95)) (fun _ h9 => h9) rfl dX6_agreeWith_11 ?_
        refine lv_iload_n hx hb dX6_agreeWith_14 rfl (lv_at hl 3 rfl) ?_
        obtain ⟨i_v2, v2, e_v2, hf⟩ := zl_some hf
        refine va_iald (n := 10) (f := M 0) (cA := cI) hx hb hK hP 1 0 rfl rfl i_v2 dX6_agreeWith_15 ?_
        refine zt e_v2 ?_
        refine lv_iload_n hx hb dX6_agreeWith_16 rfl (lv_at hl 1 rfl) ?_
        refine lv_icmp_ne (tgt := 41) hx hb dX6_agreeWith_17 (by decide) (fun c_3 => ?_) (fun c_3 => ?_)
        · replace hf := zif c_3 hf
          obtain ⟨x4, e_x4, hf⟩ := zv_some hf
          refine lv_iinc (v := x4) (lv' := [(3, .int x4), (0, .ref (hM 0)), (1, .int l1), (2, .int l2)]) hx hb dX6_agreeWith_41 hl (k := 3) rfl (by rw [e_x4]; rfl) (by decide) rfl (fun ls hl => ?_)
          refine lv_goto (tgt := 2) hx hb dX6_agreeWith_44 (by decide) ?_
          exact ih _ hf _ _ _ hP hD hS (lv_sub hl [1, 2, 3, 0] rfl)
        · replace hf := zit c_3 hf
          refine lv_aload_n hx hb dX6_agreeWith_20 rfl (lv_at hl 0 rfl) ?_
          refine va_get (D := D) (ci := 6) (v := .ref (hM 2)) (C := RX6) (T := TX6) (N := 4) hx hb hts hi6 hown hK hP 0 rfl rfl 1 (Nat.le_of_ble_eq_true rfl) (hts _ (List.mem_cons_of_mem _ wd_96)) (fun _ h9 => h9) rfl dX6_agreeWith_21 ?_
          refine lv_iload_n hx hb dX6_agreeWith_24 rfl (lv_at hl 3 rfl) ?_
          obtain ⟨i_v5, v5, e_v5, hf⟩ := zl_some hf
          refine va_iald (n := 10) (f := M 1) (cA := cI) hx hb hK hP 2 0 rfl rfl i_v5 dX6_agreeWith_25 ?_
          refine zt e_v5 ?_
          refine lv_iload_n hx hb dX6_agreeWith_26 rfl (lv_at hl 2 rfl) ?_
          obtain ⟨r6, hq7, hf⟩ := zb1_some hf
          refine zcallSi (rest := []) ⟨hx, hb, hml, hown, hts⟩ (c_X5_byInch l D cI cB v5 l2 r6 hq7) (z_cwS 2 hts (z_gS hG wd_572 wd_436 wd_10 wd_437) rfl rfl rfl q_X5_byInch ⟨Nat.le_of_ble_eq_true rfl, Nat.le_of_ble_eq_true rfl⟩) hK hP hD hS hA rfl hl.1 (Nat.le_of_ble_eq_true rfl) dX6_agreeWith_27 ⟨Nat.zero_le _, Nat.zero_le _⟩ rfl (fun H locs hP hD hS => ?_)
          refine lv_aload_n hx hb dX6_agreeWith_30 rfl (lv_at hl 0 rfl) ?_
          refine va_get (D := D) (ci := 6) (v := .ref (hM 3)) (C := RX6) (T := TX6) (N := 4) hx hb hts hi6 hown hK hP 0 rfl rfl 2 (Nat.le_of_ble_eq_true rfl) (hts _ (List.mem_cons_of_mem _ wd_97)) (fun _ h9 => h9) rfl dX6_agreeWith_31 ?_
          refine lv_iload_n hx hb dX6_agreeWith_34 rfl (lv_at hl 3 rfl) ?_
          obtain ⟨i_v8, v8, e_v8, hf⟩ := zl_some hf
          refine va_iald (n := 10) (f := M 2) (cA := cI) hx hb hK hP 3 0 rfl rfl i_v8 dX6_agreeWith_35 ?_
          refine zt e_v8 ?_
          refine lv_icmp_eq (tgt := 41) hx hb dX6_agreeWith_36 (by decide) (fun c_9 => ?_) (fun c_9 => ?_)
          · replace hf := zit c_9 hf
            obtain ⟨x10, e_x10, hf⟩ := zv_some hf
            refine lv_iinc (v := x10) (lv' := [(3, .int x10), (0, .ref (hM 0)), (1, .int l1), (2, .int l2)]) hx hb dX6_agreeWith_41 hl (k := 3) rfl (by rw [e_x10]; rfl) (by decide) rfl (fun ls hl => ?_)
            refine lv_goto (tgt := 2) hx hb dX6_agreeWith_44 (by decide) ?_
            exact ih _ hf _ _ _ hP hD hS (lv_sub hl [1, 2, 3, 0] rfl)
          · replace hf := zif c_9 hf
            refine lv_iconst (v := 0) hx hb dX6_agreeWith_39 (by decide) ?_
            cases hf
            exact zretB hx hb hr hlocks rfl hK hP hD hS dX6_agreeWith_40
  unfold f_X6_agreeWith at hf
  refine lv_iconst (v := 0) hx hb dX6_agreeWith_0 (by decide) ?_
  refine lv_istore_n (lv' := [(3, .int 0), (0, .ref (hM 0)), (1, .int a1), (2, .int a2)]) hx hb dX6_agreeWith_1 rfl hl (by decide) rfl (fun ls hl => ?_)
  exact L2 _ _ _ _ _ hf _ _ _ hP hD hS (lv_sub hl [1, 2, 3, 0] rfl)
def f_X7_append (M : zMm) (a1 : Int32) : Option (zMm) := if (300 : Int32) ≤ (M 2 0) then some M else zw 300 M 0 (M 2 0) (vp_nar .byte (a1.toInt8.toInt32)) (fun M_2 => zv (zs M_2 2 (fun _ => (M_2 2 0) + 1)) (fun (M_3 : zMm) => some M_3))
abbrev ww_X7_append : List Cond := Cond.code yX7_append cX7_append 2 none :: wG
theorem q_X7_append : yX7_append.cls = RX7 ∧ yX7_append.cls ≠ "java/lang/invoke/MethodHandle" ∧ yX7_append.cls ≠ "java/lang/invoke/VarHandle" ∧ (parseMethodDescriptor yX7_append.desc).map (fun d => d.parameters.length) = some 1 := by decide +kernel
set_option maxHeartbeats 4000000 in
set_option maxRecDepth 100000 in
theorem c_X7_append (l : Launch) (D : va_G) (cI cB : ClassId) (hM : Nat → Nat) (M : zMm) (a1 : Int32) (M0 : zMm) (hf : f_X7_append M a1 = some M0) : zMv l yX7_append ww_X7_append ({ frames := 0, cells := 0, slots := 0, locals := 0 } : Room) D cI cB [.ref (hM 0), .int a1] (w7 cI cB hM M) (w7 cI cB hM M0) := by
  refine zofV (cc := cX7_append) (maxL := 2) (ret := none) (by decide +kernel) rfl (Nat.le_of_ble_eq_true rfl) ?_
  intro p e s m below meth c A ls hx hb hml hr hown hts hlocks hK hP hD hS hA hl
  have hl : lv_has ls 2 [(0, .ref (hM 0)), (1, .int a1)] := hl
  have hown : s.vm.findClass RX7 = some m.cls := hown
  have hG : ∀ w ∈ wG, w ∈ ww_X7_append := fun w h => List.mem_cons_of_mem _ h
  have hi7 : ∀ w ∈ wsX70, w ∈ ww_X7_append := fun w h => List.mem_cons_of_mem _ (z_inX7 w h)
  unfold f_X7_append at hf
  refine lv_aload_n hx hb dX7_append_0 rfl (lv_at hl 0 rfl) ?_
  refine va_get (D := D) (ci := 7) (v := .int (M 2 0)) (C := RX7) (T := TX7) (N := 3) hx hb hts hi7 hown hK hP 0 rfl rfl 2 (Nat.le_of_ble_eq_true rfl) (hts _ (List.mem_cons_of_mem _ wd_32)) (fun _ h9 => h9) rfl dX7_append_1 ?_
  refine lv_sipush (v := 300) hx hb dX7_append_4 (by decide) ?_
  refine lv_icmp_ge (tgt := 31) hx hb dX7_append_7 (by decide) (fun c_1 => ?_) (fun c_1 => ?_)
  · replace hf := zit c_1 hf
    cases hf
    exact zretV hx hb hr hlocks hK hP hD hS dX7_append_31
  · replace hf := zif c_1 hf
    refine lv_aload_n hx hb dX7_append_10 rfl (lv_at hl 0 rfl) ?_
    refine va_get (D := D) (ci := 7) (v := .ref (hM 1)) (C := RX7) (T := TX7) (N := 3) hx hb hts hi7 hown hK hP 0 rfl rfl 0 (Nat.le_of_ble_eq_true rfl) (hts _ (List.mem_cons_of_mem _ wd_30)) (fun _ h9 => h9) rfl dX7_append_11 ?_
    refine lv_aload_n hx hb dX7_append_14 rfl (lv_at hl 0 rfl) ?_
    refine va_get (D := D) (ci := 7) (v := .int (M 2 0)) (C := RX7) (T := TX7) (N := 3) hx hb hts hi7 hown hK hP 0 rfl rfl 2 (Nat.le_of_ble_eq_true rfl) (hts _ (List.mem_cons_of_mem _ wd_32)) (fun _ h9 => h9) rfl dX7_append_15 ?_
    refine lv_iload_n hx hb dX7_append_18 rfl (lv_at hl 1 rfl) ?_
    refine lv_i2b hx hb dX7_append_19 rfl ?_
    obtain ⟨i_M_2, M_2, e_M_2, hf⟩ := zw_some hf
    refine va_bast (n := 300) (f := M 0) (cA := cB) hx hb hK hP hD hS 1 1 rfl rfl i_M_2 dX7_append_20 (fun H locs hP hD hS => ?_)
    have hP : va_P D vwCl (w7 cI cB hM (zs M 0 (upd (M 0) (M 2 0).toNatClampNeg (vp_nar .byte (a1.toInt8.toInt32))))) H := hP
    have hD : va_D A (w7 cI cB hM (zs M 0 (upd (M 0) (M 2 0).toNatClampNeg (vp_nar .byte (a1.toInt8.toInt32))))) := hD
    rw [← e_M_2] at hP hD
    refine lv_aload_n hx hb dX7_append_21 rfl (lv_at hl 0 rfl) ?_
    refine lv_dup hx hb dX7_append_22 rfl ?_
    refine va_get (D := D) (ci := 7) (v := .int (M_2 2 0)) (C := RX7) (T := TX7) (N := 3) hx hb hts hi7 hown hK hP 0 rfl rfl 2 (Nat.le_of_ble_eq_true rfl) (hts _ (List.mem_cons_of_mem _ wd_32)) (fun _ h9 => h9) rfl dX7_append_23 ?_
    refine lv_iconst (v := 1) hx hb dX7_append_26 (by decide) ?_
    refine lv_iadd hx hb dX7_append_27 ?_
    obtain ⟨M_3, e_M_3, hf⟩ := zv_some hf
    refine va_put (D := D) (ci := 7) (v := .int ((M_2 2 0) + 1)) (ty := .int) (C := RX7) (T := TX7) (N := 3) hx hb hts hi7 tyX7 tyX7_ok nmX7 hown hK hP hD hS 0 rfl rfl 2 (Nat.le_of_ble_eq_true rfl) (hts _ (List.mem_cons_of_mem _ wd_32)) (fun _ h9 => h9) rfl (by decide +kernel) rfl rfl (Nat.le_of_ble_eq_true rfl) dX7_append_28 (fun H locs hP hD hS => ?_)
    have hP : va_P D vwCl (w7 cI cB hM (zs M_2 2 (fun _ => (M_2 2 0) + 1))) H := hP
    have hD : va_D A (w7 cI cB hM (zs M_2 2 (fun _ => (M_2 2 0) + 1))) := hD
    rw [← e_M_3] at hP hD
    cases hf
    exact zretV hx hb hr hlocks hK hP hD hS dX7_append_31
def f_X7_numbersBehind (a0 : Int32) : Option (Int32) := if a0 = 99 then some (1 : Int32) else if a0 = 103 then some (1 : Int32) else if a0 = 112 then some (3 : Int32) else if a0 = 115 then some (2 : Int32) else if a0 = 116 then some (1 : Int32) else if a0 = 122 then some (1 : Int32) else some (0 : Int32)
abbrev ww_X7_numbersBehind : List Cond := Cond.code yX7_numbersBehind cX7_numbersBehind 1 (some .int) :: wG
theorem q_X7_numbersBehind : yX7_numbersBehind.cls ≠ "java/lang/invoke/MethodHandle" ∧ yX7_numbersBehind.cls ≠ "java/lang/invoke/VarHandle" ∧ (parseMethodDescriptor yX7_numbersBehind.desc).map (fun d => d.parameters.length) = some 1 := by decide +kernel
set_option maxHeartbeats 4000000 in
set_option maxRecDepth 100000 in
theorem c_X7_numbersBehind (l : Launch) (D : va_G) (cI cB : ClassId)  (a0 : Int32) (r0 : Int32) (hf : f_X7_numbersBehind a0 = some r0) : zMi l yX7_numbersBehind ww_X7_numbersBehind ({ frames := 0, cells := 0, slots := 0, locals := 0 } : Room) D cI cB [.int a0] [] r0 [] := by
  refine zofI (cc := cX7_numbersBehind) (maxL := 1) (ret := (some .int)) (by decide +kernel) rfl (Nat.le_of_ble_eq_true rfl) ?_
  intro p e s m below meth c A ls hx hb hml hr hown hts hlocks hK hP hD hS hA hl
  have hl : lv_has ls 1 [(0, .int a0)] := hl
  have hown : s.vm.findClass RX7 = some m.cls := hown
  have hG : ∀ w ∈ wG, w ∈ ww_X7_numbersBehind := fun w h => List.mem_cons_of_mem _ h
  unfold f_X7_numbersBehind at hf
  refine lv_iload_n hx hb dX7_numbersBehind_0 rfl (lv_at hl 0 rfl) ?_
  by_cases c_1 : a0 = 99
  · replace hf := zit c_1 hf
    refine zt c_1.symm ?_
    refine lv_lookup (off := 59) (tgt := 60) hx hb dX7_numbersBehind_1 (by decide) (by decide) (by decide) ?_
    refine lv_iconst (v := 1) hx hb dX7_numbersBehind_60 (by decide) ?_
    cases hf
    exact zretI hx hb hr hlocks hK hP hD hS dX7_numbersBehind_61
  · replace hf := zif c_1 hf
    by_cases c_2 : a0 = 103
    · replace hf := zit c_2 hf
      refine zt c_2.symm ?_
      refine lv_lookup (off := 59) (tgt := 60) hx hb dX7_numbersBehind_1 (by decide) (by decide) (by decide) ?_
      refine lv_iconst (v := 1) hx hb dX7_numbersBehind_60 (by decide) ?_
      cases hf
      exact zretI hx hb hr hlocks hK hP hD hS dX7_numbersBehind_61
    · replace hf := zif c_2 hf
      by_cases c_3 : a0 = 112
      · replace hf := zit c_3 hf
        refine zt c_3.symm ?_
        refine lv_lookup (off := 63) (tgt := 64) hx hb dX7_numbersBehind_1 (by decide) (by decide) (by decide) ?_
        refine lv_iconst (v := 3) hx hb dX7_numbersBehind_64 (by decide) ?_
        cases hf
        exact zretI hx hb hr hlocks hK hP hD hS dX7_numbersBehind_65
      · replace hf := zif c_3 hf
        by_cases c_4 : a0 = 115
        · replace hf := zit c_4 hf
          refine zt c_4.symm ?_
          refine lv_lookup (off := 61) (tgt := 62) hx hb dX7_numbersBehind_1 (by decide) (by decide) (by decide) ?_
          refine lv_iconst (v := 2) hx hb dX7_numbersBehind_62 (by decide) ?_
          cases hf
          exact zretI hx hb hr hlocks hK hP hD hS dX7_numbersBehind_63
        · replace hf := zif c_4 hf
          by_cases c_5 : a0 = 116
          · replace hf := zit c_5 hf
            refine zt c_5.symm ?_
            refine lv_lookup (off := 59) (tgt := 60) hx hb dX7_numbersBehind_1 (by decide) (by decide) (by decide) ?_
            refine lv_iconst (v := 1) hx hb dX7_numbersBehind_60 (by decide) ?_
            cases hf
            exact zretI hx hb hr hlocks hK hP hD hS dX7_numbersBehind_61
          · replace hf := zif c_5 hf
            by_cases c_6 : a0 = 122
            · replace hf := zit c_6 hf
              refine zt c_6.symm ?_
              refine lv_lookup (off := 59) (tgt := 60) hx hb dX7_numbersBehind_1 (by decide) (by decide) (by decide) ?_
              refine lv_iconst (v := 1) hx hb dX7_numbersBehind_60 (by decide) ?_
              cases hf
              exact zretI hx hb hr hlocks hK hP hD hS dX7_numbersBehind_61
            · replace hf := zif c_6 hf
              refine lv_lookup (off := 65) (tgt := 66) hx hb dX7_numbersBehind_1 (by decide) ((lv_osw (k := 99) (a := 99) c_1 (by decide)).trans ((lv_osw (k := 103) (a := 103) c_2 (by decide)).trans ((lv_osw (k := 112) (a := 112) c_3 (by decide)).trans ((lv_osw (k := 115) (a := 115) c_4 (by decide)).trans ((lv_osw (k := 116) (a := 116) c_5 (by decide)).trans ((lv_osw (k := 122) (a := 122) c_6 (by decide)).trans (rfl))))))) (by decide) ?_
              refine lv_iconst (v := 0) hx hb dX7_numbersBehind_66 (by decide) ?_
              cases hf
              exact zretI hx hb hr hlocks hK hP hD hS dX7_numbersBehind_67
def f_X7_byteAt (M : zMm) (a1 : Int32) : Option (Int32) := if a1 < 0 then some ((-1) : Int32) else if (M 2 0) ≤ a1 then some ((-1) : Int32) else zl 300 (M 0) a1 (fun v3 => some (v3 &&& 255))
abbrev ww_X7_byteAt : List Cond := Cond.code yX7_byteAt cX7_byteAt 2 (some .int) :: wG
theorem q_X7_byteAt : yX7_byteAt.cls = RX7 ∧ yX7_byteAt.cls ≠ "java/lang/invoke/MethodHandle" ∧ yX7_byteAt.cls ≠ "java/lang/invoke/VarHandle" ∧ (parseMethodDescriptor yX7_byteAt.desc).map (fun d => d.parameters.length) = some 1 := by decide +kernel
set_option maxHeartbeats 4000000 in
set_option maxRecDepth 100000 in
theorem c_X7_byteAt (l : Launch) (D : va_G) (cI cB : ClassId) (hM : Nat → Nat) (M : zMm) (a1 : Int32) (r0 : Int32) (hf : f_X7_byteAt M a1 = some r0) : zMi l yX7_byteAt ww_X7_byteAt ({ frames := 0, cells := 0, slots := 0, locals := 0 } : Room) D cI cB [.ref (hM 0), .int a1] [k7_0 cI cB hM M, k7_1 cI cB hM M] r0 [k7_0 cI cB hM M, k7_1 cI cB hM M] := by
  refine zofI (cc := cX7_byteAt) (maxL := 2) (ret := (some .int)) (by decide +kernel) rfl (Nat.le_of_ble_eq_true rfl) ?_
  intro p e s m below meth c A ls hx hb hml hr hown hts hlocks hK hP hD hS hA hl
  have hl : lv_has ls 2 [(0, .ref (hM 0)), (1, .int a1)] := hl
  have hown : s.vm.findClass RX7 = some m.cls := hown
  have hG : ∀ w ∈ wG, w ∈ ww_X7_byteAt := fun w h => List.mem_cons_of_mem _ h
  have hi7 : ∀ w ∈ wsX70, w ∈ ww_X7_byteAt := fun w h => List.mem_cons_of_mem _ (z_inX7 w h)
  unfold f_X7_byteAt at hf
  refine lv_iload_n hx hb dX7_byteAt_0 rfl (lv_at hl 1 rfl) ?_
  refine lv_if_lt (tgt := 25) hx hb dX7_byteAt_1 (by decide) (fun c_1 => ?_) (fun c_1 => ?_)
  · replace hf := zit c_1 hf
    refine lv_iconst (v := (-1)) hx hb dX7_byteAt_25 (by decide) ?_
    cases hf
    exact zretI hx hb hr hlocks hK hP hD hS dX7_byteAt_26
  · replace hf := zif c_1 hf
    refine lv_iload_n hx hb dX7_byteAt_4 rfl (lv_at hl 1 rfl) ?_
    refine lv_aload_n hx hb dX7_byteAt_5 rfl (lv_at hl 0 rfl) ?_
    refine va_get (D := D) (ci := 7) (v := .int (M 2 0)) (C := RX7) (T := TX7) (N := 3) hx hb hts hi7 hown hK hP 0 rfl rfl 2 (Nat.le_of_ble_eq_true rfl) (hts _ (List.mem_cons_of_mem _ wd_32)) (fun _ h9 => h9) rfl dX7_byteAt_6 ?_
    refine lv_icmp_ge (tgt := 25) hx hb dX7_byteAt_9 (by decide) (fun c_2 => ?_) (fun c_2 => ?_)
    · replace hf := zit c_2 hf
      refine lv_iconst (v := (-1)) hx hb dX7_byteAt_25 (by decide) ?_
      cases hf
      exact zretI hx hb hr hlocks hK hP hD hS dX7_byteAt_26
    · replace hf := zif c_2 hf
      refine lv_aload_n hx hb dX7_byteAt_12 rfl (lv_at hl 0 rfl) ?_
      refine va_get (D := D) (ci := 7) (v := .ref (hM 1)) (C := RX7) (T := TX7) (N := 3) hx hb hts hi7 hown hK hP 0 rfl rfl 0 (Nat.le_of_ble_eq_true rfl) (hts _ (List.mem_cons_of_mem _ wd_30)) (fun _ h9 => h9) rfl dX7_byteAt_13 ?_
      refine lv_iload_n hx hb dX7_byteAt_16 rfl (lv_at hl 1 rfl) ?_
      obtain ⟨i_v3, v3, e_v3, hf⟩ := zl_some hf
      refine va_bald (n := 300) (f := M 0) (cA := cB) hx hb hK hP 1 1 rfl rfl i_v3 dX7_byteAt_17 ?_
      refine zt e_v3 ?_
      refine lv_sipush (v := 255) hx hb dX7_byteAt_18 (by decide) ?_
      refine lv_iand hx hb dX7_byteAt_21 ?_
      refine lv_goto (tgt := 26) hx hb dX7_byteAt_22 (by decide) ?_
      cases hf
      exact zretI hx hb hr hlocks hK hP hD hS dX7_byteAt_26
def L_X7_readNumber_5 (M : zMm) (l1 : Int32) (l2 : Int32) : Nat → Int32 → Int32 → Option (Int32 × Int32)
  | 0, _, _ => none
  | n + 1, l3, l4 => if (l1 + 3) ≤ l3 then some (l3, l4) else zb1 (f_X7_byteAt M l3) (fun (r2 : Int32) => if r2 < 48 then some (l3, l4) else zb1 (f_X7_byteAt M l3) (fun (r5 : Int32) => if (57 : Int32) < r5 then some (l3, l4) else zb1 (f_X7_byteAt M l3) (fun (r8 : Int32) => zv ((((10 : Int32) * l4) + r8) - 48) (fun (x10 : Int32) => zv (l3 + 1) (fun (x11 : Int32) => L_X7_readNumber_5 M l1 l2 n x11 x10)))))
def f_X7_readNumber (M : zMm) (a1 : Int32) (a2 : Int32) : Option (Int32 × zMm) := zb2 (L_X7_readNumber_5 M a1 a2 100000 a1 0) (fun (x12 : Int32) (x13 : Int32) => if x12 = a1 then some (((-1) : Int32), M) else if a2 < 0 then some (((-1) : Int32), M) else if a2 < 3 then zw 3 M 1 a2 x13 (fun M_18 => some (x12, M_18)) else some (((-1) : Int32), M))
abbrev ww_X7_readNumber : List Cond := Cond.code yX7_readNumber cX7_readNumber 5 (some .int) :: wG
theorem q_X7_readNumber : yX7_readNumber.cls = RX7 ∧ yX7_readNumber.cls ≠ "java/lang/invoke/MethodHandle" ∧ yX7_readNumber.cls ≠ "java/lang/invoke/VarHandle" ∧ (parseMethodDescriptor yX7_readNumber.desc).map (fun d => d.parameters.length) = some 2 := by decide +kernel
set_option maxHeartbeats 4000000 in
set_option maxRecDepth 100000 in
theorem c_X7_readNumber (l : Launch) (D : va_G) (cI cB : ClassId) (hM : Nat → Nat) (M : zMm) (a1 : Int32) (a2 : Int32) (r0 : Int32) (M0 : zMm) (hf : f_X7_readNumber M a1 a2 = some (r0, M0)) : zMi l yX7_readNumber ww_X7_readNumber ({ frames := 1, cells := 0, slots := 0, locals := 21 } : Room) D cI cB [.ref (hM 0), .int a1, .int a2] (w7 cI cB hM M) r0 (w7 cI cB hM M0) := by
  refine zofI (cc := cX7_readNumber) (maxL := 5) (ret := (some .int)) (by decide +kernel) rfl (Nat.le_of_ble_eq_true rfl) ?_
  intro p e s m below meth c A ls hx hb hml hr hown hts hlocks hK hP hD hS hA hl
  have hl : lv_has ls 5 [(0, .ref (hM 0)), (1, .int a1), (2, .int a2)] := hl
  have hown : s.vm.findClass RX7 = some m.cls := hown
  have hG : ∀ w ∈ wG, w ∈ ww_X7_readNumber := fun w h => List.mem_cons_of_mem _ h
  have hi7 : ∀ w ∈ wsX70, w ∈ ww_X7_readNumber := fun w h => List.mem_cons_of_mem _ (z_inX7 w h)
  have L5 : ∀ (M : zMm) (l1 : Int32) (l2 : Int32) (n : Nat) (l3 : Int32) (l4 : Int32) (o3 : Int32) (o4 : Int32), L_X7_readNumber_5 M l1 l2 n l3 l4 = some (o3, o4) → zAt p l e ({ frames := 1, cells := 0, slots := 0, locals := 21 } : Room) s m [.ref (hM 0), .int a1, .int a2].toArray below meth c (MQ below (zQi D cI cB r0 (w7 cI cB hM M0) A) [.ref (hM 0), .int a1, .int a2].toArray s 0 0 A) A D 5 (w7 cI cB hM M) [(0, .ref (hM 0)), (1, .int l1), (2, .int l2), (3, .int o3), (4, .int o4)] 54 [] → zAt p l e ({ frames := 1, cells := 0, slots := 0, locals := 21 } : Room) s m [.ref (hM 0), .int a1, .int a2].toArray below meth c (MQ below (zQi D cI cB r0 (w7 cI cB hM M0) A) [.ref (hM 0), .int a1, .int a2].toArray s 0 0 A) A D 5 (w7 cI cB hM M) [(0, .ref (hM 0)), (1, .int l1), (2, .int l2), (3, .int l3), (4, .int l4)] 5 [] := by
    intro M l1 l2 n
    induction n with
    | zero => intro l3 l4 o3 o4 hf; simp [L_X7_readNumber_5] at hf
    | succ n ih =>
      intro l3 l4 o3 o4 hf hk H locs ls hP hD hS hl
      rw [L_X7_readNumber_5] at hf
      refine lv_iload_n hx hb dX7_readNumber_5 rfl (lv_at hl 3 rfl) ?_
      refine lv_iload_n hx hb dX7_readNumber_6 rfl (lv_at hl 1 rfl) ?_
      refine lv_iconst (v := 3) hx hb dX7_readNumber_7 (by decide) ?_
      refine lv_iadd hx hb dX7_readNumber_8 ?_
      refine lv_icmp_ge (tgt := 54) hx hb dX7_readNumber_9 (by decide) (fun c_1 => ?_) (fun c_1 => ?_)
      · replace hf := zit c_1 hf
        cases hf
        exact hk _ _ _ hP hD hS (lv_sub hl [0, 1, 2, 3, 4] rfl)
      · replace hf := zif c_1 hf
        refine lv_aload_n hx hb dX7_readNumber_12 rfl (lv_at hl 0 rfl) ?_
        refine lv_iload_n hx hb dX7_readNumber_13 rfl (lv_at hl 3 rfl) ?_
        obtain ⟨r2, hq3, hf⟩ := zb1_some hf
        refine zcallVi (ws2 := (w7 cI cB hM M)) (rest := []) ⟨hx, hb, hml, hown, hts⟩ (c_X7_byteAt l D cI cB hM M l3 r2 hq3) (cwV 1 hts (z_gV hG wd_292 wd_294 wd_s0 wd_2 wd_295) rfl rfl rfl q_X7_byteAt ⟨Nat.le_of_ble_eq_true rfl, Nat.le_of_ble_eq_true rfl⟩) hK hP hD hS hA 7 rfl rfl rfl [0, 1] [2] rfl rfl rfl rfl rfl rfl rfl hl.1 (Nat.le_of_ble_eq_true rfl) dX7_readNumber_14 ⟨Nat.zero_le _, Nat.zero_le _⟩ rfl (fun H locs hP hD hS => ?_)
        refine lv_bipush (v := 48) hx hb dX7_readNumber_17 (by decide) ?_
        refine lv_icmp_lt (tgt := 54) hx hb dX7_readNumber_19 (by decide) (fun c_4 => ?_) (fun c_4 => ?_)
        · replace hf := zit c_4 hf
          cases hf
          exact hk _ _ _ hP hD hS (lv_sub hl [0, 1, 2, 3, 4] rfl)
        · replace hf := zif c_4 hf
          refine lv_aload_n hx hb dX7_readNumber_22 rfl (lv_at hl 0 rfl) ?_
          refine lv_iload_n hx hb dX7_readNumber_23 rfl (lv_at hl 3 rfl) ?_
          obtain ⟨r5, hq6, hf⟩ := zb1_some hf
          refine zcallVi (ws2 := (w7 cI cB hM M)) (rest := []) ⟨hx, hb, hml, hown, hts⟩ (c_X7_byteAt l D cI cB hM M l3 r5 hq6) (cwV 1 hts (z_gV hG wd_292 wd_294 wd_s0 wd_2 wd_295) rfl rfl rfl q_X7_byteAt ⟨Nat.le_of_ble_eq_true rfl, Nat.le_of_ble_eq_true rfl⟩) hK hP hD hS hA 7 rfl rfl rfl [0, 1] [2] rfl rfl rfl rfl rfl rfl rfl hl.1 (Nat.le_of_ble_eq_true rfl) dX7_readNumber_24 ⟨Nat.zero_le _, Nat.zero_le _⟩ rfl (fun H locs hP hD hS => ?_)
          refine lv_bipush (v := 57) hx hb dX7_readNumber_27 (by decide) ?_
          refine lv_icmp_gt (tgt := 54) hx hb dX7_readNumber_29 (by decide) (fun c_7 => ?_) (fun c_7 => ?_)
          · replace hf := zit c_7 hf
            cases hf
            exact hk _ _ _ hP hD hS (lv_sub hl [0, 1, 2, 3, 4] rfl)
          · replace hf := zif c_7 hf
            refine lv_bipush (v := 10) hx hb dX7_readNumber_32 (by decide) ?_
            refine lv_iload hx hb dX7_readNumber_34 (lv_at hl 4 rfl) ?_
            refine lv_imul hx hb dX7_readNumber_36 ?_
            refine lv_aload_n hx hb dX7_readNumber_37 rfl (lv_at hl 0 rfl) ?_
            refine lv_iload_n hx hb dX7_readNumber_38 rfl (lv_at hl 3 rfl) ?_
            obtain ⟨r8, hq9, hf⟩ := zb1_some hf
            refine zcallVi (ws2 := (w7 cI cB hM M)) (rest := [.int ((10 : Int32) * l4)]) ⟨hx, hb, hml, hown, hts⟩ (c_X7_byteAt l D cI cB hM M l3 r8 hq9) (cwV 1 hts (z_gV hG wd_292 wd_294 wd_s0 wd_2 wd_295) rfl rfl rfl q_X7_byteAt ⟨Nat.le_of_ble_eq_true rfl, Nat.le_of_ble_eq_true rfl⟩) hK hP hD hS hA 7 rfl rfl rfl [0, 1] [2] rfl rfl rfl rfl rfl rfl rfl hl.1 (Nat.le_of_ble_eq_true rfl) dX7_readNumber_39 ⟨Nat.zero_le _, Nat.zero_le _⟩ rfl (fun H locs hP hD hS => ?_)
            refine lv_iadd hx hb dX7_readNumber_42 ?_
            refine lv_bipush (v := 48) hx hb dX7_readNumber_43 (by decide) ?_
            refine lv_isub hx hb dX7_readNumber_45 ?_
            obtain ⟨x10, e_x10, hf⟩ := zv_some hf
            refine zt e_x10 ?_
            refine lv_istore (lv' := [(4, .int x10), (0, .ref (hM 0)), (1, .int l1), (2, .int l2), (3, .int l3)]) hx hb dX7_readNumber_46 hl (by decide) rfl (fun ls hl => ?_)
            obtain ⟨x11, e_x11, hf⟩ := zv_some hf
            refine lv_iinc (v := x11) (lv' := [(3, .int x11), (4, .int x10), (0, .ref (hM 0)), (1, .int l1), (2, .int l2)]) hx hb dX7_readNumber_48 hl (k := 4) rfl (by rw [e_x11]; rfl) (by decide) rfl (fun ls hl => ?_)
            refine lv_goto (tgt := 5) hx hb dX7_readNumber_51 (by decide) ?_
            exact ih _ _ _ _ hf hk _ _ _ hP hD hS (lv_sub hl [2, 3, 4, 0, 1] rfl)
  unfold f_X7_readNumber at hf
  refine lv_iload_n hx hb dX7_readNumber_0 rfl (lv_at hl 1 rfl) ?_
  refine lv_istore_n (lv' := [(3, .int a1), (0, .ref (hM 0)), (1, .int a1), (2, .int a2)]) hx hb dX7_readNumber_1 rfl hl (by decide) rfl (fun ls hl => ?_)
  refine lv_iconst (v := 0) hx hb dX7_readNumber_2 (by decide) ?_
  refine lv_istore (lv' := [(4, .int 0), (3, .int a1), (0, .ref (hM 0)), (1, .int a1), (2, .int a2)]) hx hb dX7_readNumber_3 hl (by decide) rfl (fun ls hl => ?_)
  obtain ⟨x12, x13, hq14, hf⟩ := zb2_some hf
  refine L5 _ _ _ _ _ _ _ _ hq14 ?_ _ _ _ hP hD hS (lv_sub hl [2, 3, 4, 1, 0] rfl)
  intro H locs ls hP hD hS hl
  refine lv_iload_n hx hb dX7_readNumber_54 rfl (lv_at hl 3 rfl) ?_
  refine lv_iload_n hx hb dX7_readNumber_55 rfl (lv_at hl 1 rfl) ?_
  refine lv_icmp_eq (tgt := 68) hx hb dX7_readNumber_56 (by decide) (fun c_15 => ?_) (fun c_15 => ?_)
  · replace hf := zit c_15 hf
    refine lv_iconst (v := (-1)) hx hb dX7_readNumber_68 (by decide) ?_
    cases hf
    exact zretI hx hb hr hlocks hK hP hD hS dX7_readNumber_69
  · replace hf := zif c_15 hf
    refine lv_iload_n hx hb dX7_readNumber_59 rfl (lv_at hl 2 rfl) ?_
    refine lv_if_lt (tgt := 68) hx hb dX7_readNumber_60 (by decide) (fun c_16 => ?_) (fun c_16 => ?_)
    · replace hf := zit c_16 hf
      refine lv_iconst (v := (-1)) hx hb dX7_readNumber_68 (by decide) ?_
      cases hf
      exact zretI hx hb hr hlocks hK hP hD hS dX7_readNumber_69
    · replace hf := zif c_16 hf
      refine lv_iload_n hx hb dX7_readNumber_63 rfl (lv_at hl 2 rfl) ?_
      refine lv_iconst (v := 3) hx hb dX7_readNumber_64 (by decide) ?_
      refine lv_icmp_lt (tgt := 70) hx hb dX7_readNumber_65 (by decide) (fun c_17 => ?_) (fun c_17 => ?_)
      · replace hf := zit c_17 hf
        refine lv_aload_n hx hb dX7_readNumber_70 rfl (lv_at hl 0 rfl) ?_
        refine va_get (D := D) (ci := 7) (v := .ref (hM 2)) (C := RX7) (T := TX7) (N := 3) hx hb hts hi7 hown hK hP 0 rfl rfl 1 (Nat.le_of_ble_eq_true rfl) (hts _ (List.mem_cons_of_mem _ wd_31)) (fun _ h9 => h9) rfl dX7_readNumber_71 ?_
        refine lv_iload_n hx hb dX7_readNumber_74 rfl (lv_at hl 2 rfl) ?_
        refine lv_iload hx hb dX7_readNumber_75 (lv_at hl 4 rfl) ?_
        obtain ⟨i_M_18, M_18, e_M_18, hf⟩ := zw_some hf
        refine va_iast (n := 3) (f := M 1) (cA := cI) hx hb hK hP hD hS 2 0 rfl rfl i_M_18 dX7_readNumber_77 (fun H locs hP hD hS => ?_)
        have hP : va_P D vwCl (w7 cI cB hM (zs M 1 (upd (M 1) a2.toNatClampNeg x13))) H := hP
        have hD : va_D A (w7 cI cB hM (zs M 1 (upd (M 1) a2.toNatClampNeg x13))) := hD
        rw [← e_M_18] at hP hD
        refine lv_iload_n hx hb dX7_readNumber_78 rfl (lv_at hl 3 rfl) ?_
        cases hf
        exact zretI hx hb hr hlocks hK hP hD hS dX7_readNumber_79
      · replace hf := zif c_17 hf
        refine lv_iconst (v := (-1)) hx hb dX7_readNumber_68 (by decide) ?_
        cases hf
        exact zretI hx hb hr hlocks hK hP hD hS dX7_readNumber_69
def L_X7_readItem_13 (l1 : Int32) (l2 : Int32) : Nat → Int32 → Int32 → zMm → Option (Int32 × zMm)
  | 0, _, _, _ => none
  | n + 1, l3, l4, M => if l2 ≤ l4 then some (l3, M) else zb2 (f_X7_readNumber M l3 l4) (fun (r4 : Int32) (M_5 : zMm) => if r4 = (-1) then some (((-1) : Int32), M_5) else zb1 (f_X7_byteAt M_5 r4) (fun (r8 : Int32) => zb1 (if l2 ≤ (l4 + 1) then some (59 : Int32) else some (44 : Int32)) (fun (y11 : Int32) => if r8 = y11 then zv (r4 + 1) (fun (x15 : Int32) => zv (l4 + 1) (fun (x16 : Int32) => L_X7_readItem_13 l1 l2 n x15 x16 M_5)) else some (((-1) : Int32), M_5))))
def f_X7_readItem (M : zMm) (a1 : Int32) (a2 : Int32) : Option (Int32 × zMm) := if a2 = 0 then some (((-1) : Int32), M) else zv (a1 + 1) (fun (x2 : Int32) => L_X7_readItem_13 a1 a2 100000 x2 0 M)
abbrev ww_X7_readItem : List Cond := Cond.code yX7_readItem cX7_readItem 5 (some .int) :: wG
theorem q_X7_readItem : yX7_readItem.cls = RX7 ∧ yX7_readItem.cls ≠ "java/lang/invoke/MethodHandle" ∧ yX7_readItem.cls ≠ "java/lang/invoke/VarHandle" ∧ (parseMethodDescriptor yX7_readItem.desc).map (fun d => d.parameters.length) = some 2 := by decide +kernel
set_option maxHeartbeats 4000000 in
set_option maxRecDepth 100000 in
theorem c_X7_readItem (l : Launch) (D : va_G) (cI cB : ClassId) (hM : Nat → Nat) (M : zMm) (a1 : Int32) (a2 : Int32) (r0 : Int32) (M0 : zMm) (hf : f_X7_readItem M a1 a2 = some (r0, M0)) : zMi l yX7_readItem ww_X7_readItem ({ frames := 2, cells := 0, slots := 0, locals := 45 } : Room) D cI cB [.ref (hM 0), .int a1, .int a2] (w7 cI cB hM M) r0 (w7 cI cB hM M0) := by
  refine zofI (cc := cX7_readItem) (maxL := 5) (ret := (some .int)) (by decide +kernel) rfl (Nat.le_of_ble_eq_true rfl) ?_
  intro p e s m below meth c A ls hx hb hml hr hown hts hlocks hK hP hD hS hA hl
  have hl : lv_has ls 5 [(0, .ref (hM 0)), (1, .int a1), (2, .int a2)] := hl
  have hown : s.vm.findClass RX7 = some m.cls := hown
  have hG : ∀ w ∈ wG, w ∈ ww_X7_readItem := fun w h => List.mem_cons_of_mem _ h
  have L13 : ∀ (l1 : Int32) (l2 : Int32) (n : Nat) (l3 : Int32) (l4 : Int32) (M : zMm), L_X7_readItem_13 l1 l2 n l3 l4 M = some (r0, M0) → zAt p l e ({ frames := 2, cells := 0, slots := 0, locals := 45 } : Room) s m [.ref (hM 0), .int a1, .int a2].toArray below meth c (MQ below (zQi D cI cB r0 (w7 cI cB hM M0) A) [.ref (hM 0), .int a1, .int a2].toArray s 0 0 A) A D 5 (w7 cI cB hM M) [(0, .ref (hM 0)), (1, .int l1), (2, .int l2), (3, .int l3), (4, .int l4)] 13 [] := by
    intro l1 l2 n
    induction n with
    | zero => intro l3 l4 M hf; simp [L_X7_readItem_13] at hf
    | succ n ih =>
      intro l3 l4 M hf H locs ls hP hD hS hl
      rw [L_X7_readItem_13] at hf
      refine lv_iload hx hb dX7_readItem_13 (lv_at hl 4 rfl) ?_
      refine lv_iload_n hx hb dX7_readItem_15 rfl (lv_at hl 2 rfl) ?_
      refine lv_icmp_ge (tgt := 66) hx hb dX7_readItem_16 (by decide) (fun c_3 => ?_) (fun c_3 => ?_)
      · replace hf := zit c_3 hf
        refine lv_iload_n hx hb dX7_readItem_66 rfl (lv_at hl 3 rfl) ?_
        cases hf
        exact zretI hx hb hr hlocks hK hP hD hS dX7_readItem_67
      · replace hf := zif c_3 hf
        refine lv_aload_n hx hb dX7_readItem_19 rfl (lv_at hl 0 rfl) ?_
        refine lv_iload_n hx hb dX7_readItem_20 rfl (lv_at hl 3 rfl) ?_
        refine lv_iload hx hb dX7_readItem_21 (lv_at hl 4 rfl) ?_
        obtain ⟨r4, M_5, hq6, hf⟩ := zb2_some hf
        refine zcallVi (ws2 := (w7 cI cB hM M_5)) (rest := []) ⟨hx, hb, hml, hown, hts⟩ (c_X7_readNumber l D cI cB hM M l3 l4 r4 M_5 hq6) (cwV 2 hts (z_gV hG wd_303 wd_305 wd_s2 wd_2 wd_306) rfl rfl rfl q_X7_readNumber ⟨Nat.le_of_ble_eq_true rfl, Nat.le_of_ble_eq_true rfl⟩) hK hP hD hS hA 7 rfl rfl rfl [0, 1, 2] [] rfl rfl rfl rfl rfl rfl rfl hl.1 (Nat.le_of_ble_eq_true rfl) dX7_readItem_23 ⟨Nat.zero_le _, Nat.zero_le _⟩ rfl (fun H locs hP hD hS => ?_)
        refine lv_istore_n (lv' := [(3, .int r4), (0, .ref (hM 0)), (1, .int l1), (2, .int l2), (4, .int l4)]) hx hb dX7_readItem_26 rfl hl (by decide) rfl (fun ls hl => ?_)
        refine lv_iload_n hx hb dX7_readItem_27 rfl (lv_at hl 0 rfl) ?_
        refine lv_iconst (v := (-1)) hx hb dX7_readItem_28 (by decide) ?_
        refine lv_icmp_eq (tgt := 55) hx hb dX7_readItem_29 (by decide) (fun c_7 => ?_) (fun c_7 => ?_)
        · replace hf := zit c_7 hf
          refine lv_iconst (v := (-1)) hx hb dX7_readItem_55 (by decide) ?_
          cases hf
          exact zretI hx hb hr hlocks hK hP hD hS dX7_readItem_56
        · replace hf := zif c_7 hf
          refine lv_aload_n hx hb dX7_readItem_32 rfl (lv_at hl 1 rfl) ?_
          refine lv_iload_n hx hb dX7_readItem_33 rfl (lv_at hl 0 rfl) ?_
          obtain ⟨r8, hq9, hf⟩ := zb1_some hf
          refine zcallVi (ws2 := (w7 cI cB hM M_5)) (rest := []) ⟨hx, hb, hml, hown, hts⟩ (c_X7_byteAt l D cI cB hM M_5 r4 r8 hq9) (cwV 1 hts (z_gV hG wd_292 wd_294 wd_s0 wd_2 wd_295) rfl rfl rfl q_X7_byteAt ⟨Nat.le_of_ble_eq_true rfl, Nat.le_of_ble_eq_true rfl⟩) hK hP hD hS hA 7 rfl rfl rfl [0, 1] [2] rfl rfl rfl rfl rfl rfl rfl hl.1 (Nat.le_of_ble_eq_true rfl) dX7_readItem_34 ⟨Nat.zero_le _, Nat.zero_le _⟩ rfl (fun H locs hP hD hS => ?_)
          refine lv_iload hx hb dX7_readItem_37 (lv_at hl 4 rfl) ?_
          refine lv_iconst (v := 1) hx hb dX7_readItem_39 (by decide) ?_
          refine lv_iadd hx hb dX7_readItem_40 ?_
          refine lv_iload_n hx hb dX7_readItem_41 rfl (lv_at hl 3 rfl) ?_
          obtain ⟨y11, hq12, hf⟩ := zb1_some hf
          have J13 : zAt p l e ({ frames := 2, cells := 0, slots := 0, locals := 45 } : Room) s m [.ref (hM 0), .int a1, .int a2].toArray below meth c (MQ below (zQi D cI cB r0 (w7 cI cB hM M0) A) [.ref (hM 0), .int a1, .int a2].toArray s 0 0 A) A D 5 (w7 cI cB hM M_5) [(0, .ref (hM 0)), (1, .int l1), (2, .int l2), (3, .int r4), (4, .int l4)] 52 [.int y11, .int r8] := by
            intro H locs ls hP hD hS hl
            refine lv_icmp_eq (tgt := 57) hx hb dX7_readItem_52 (by decide) (fun c_14 => ?_) (fun c_14 => ?_)
            · replace hf := zit c_14 hf
              obtain ⟨x15, e_x15, hf⟩ := zv_some hf
              refine lv_iinc (v := x15) (lv' := [(3, .int x15), (0, .ref (hM 0)), (1, .int l1), (2, .int l2), (4, .int l4)]) hx hb dX7_readItem_57 hl (k := 3) rfl (by rw [e_x15]; rfl) (by decide) rfl (fun ls hl => ?_)
              obtain ⟨x16, e_x16, hf⟩ := zv_some hf
              refine lv_iinc (v := x16) (lv' := [(4, .int x16), (3, .int x15), (0, .ref (hM 0)), (1, .int l1), (2, .int l2)]) hx hb dX7_readItem_60 hl (k := 4) rfl (by rw [e_x16]; rfl) (by decide) rfl (fun ls hl => ?_)
              refine lv_goto (tgt := 13) hx hb dX7_readItem_63 (by decide) ?_
              exact ih _ _ _ hf _ _ _ hP hD hS (lv_sub hl [2, 3, 4, 1, 0] rfl)
            · replace hf := zif c_14 hf
              refine lv_iconst (v := (-1)) hx hb dX7_readItem_55 (by decide) ?_
              cases hf
              exact zretI hx hb hr hlocks hK hP hD hS dX7_readItem_56
          replace hf := hq12
          refine lv_icmp_ge (tgt := 50) hx hb dX7_readItem_42 (by decide) (fun c_10 => ?_) (fun c_10 => ?_)
          · replace hf := zit c_10 hf
            refine lv_bipush (v := 59) hx hb dX7_readItem_50 (by decide) ?_
            cases hf
            exact J13 _ _ _ hP hD hS (lv_sub hl [1, 2, 3, 0, 4] rfl)
          · replace hf := zif c_10 hf
            refine lv_bipush (v := 44) hx hb dX7_readItem_45 (by decide) ?_
            refine lv_goto (tgt := 52) hx hb dX7_readItem_47 (by decide) ?_
            cases hf
            exact J13 _ _ _ hP hD hS (lv_sub hl [1, 2, 3, 0, 4] rfl)
  unfold f_X7_readItem at hf
  refine lv_iload_n hx hb dX7_readItem_0 rfl (lv_at hl 2 rfl) ?_
  refine lv_if_ne (tgt := 6) hx hb dX7_readItem_1 (by decide) (fun c_1 => ?_) (fun c_1 => ?_)
  · replace hf := zif c_1 hf
    refine lv_iload_n hx hb dX7_readItem_6 rfl (lv_at hl 1 rfl) ?_
    refine lv_iconst (v := 1) hx hb dX7_readItem_7 (by decide) ?_
    refine lv_iadd hx hb dX7_readItem_8 ?_
    obtain ⟨x2, e_x2, hf⟩ := zv_some hf
    refine zt e_x2 ?_
    refine lv_istore_n (lv' := [(3, .int x2), (0, .ref (hM 0)), (1, .int a1), (2, .int a2)]) hx hb dX7_readItem_9 rfl hl (by decide) rfl (fun ls hl => ?_)
    refine lv_iconst (v := 0) hx hb dX7_readItem_10 (by decide) ?_
    refine lv_istore (lv' := [(4, .int 0), (3, .int x2), (0, .ref (hM 0)), (1, .int a1), (2, .int a2)]) hx hb dX7_readItem_11 hl (by decide) rfl (fun ls hl => ?_)
    exact L13 _ _ _ _ _ _ hf _ _ _ hP hD hS (lv_sub hl [2, 3, 4, 1, 0] rfl)
  · replace hf := zit c_1 hf
    refine lv_iconst (v := (-1)) hx hb dX7_readItem_4 (by decide) ?_
    cases hf
    exact zretI hx hb hr hlocks hK hP hD hS dX7_readItem_5
def L_X7_readInto_8  : Nat → Int32 → Int32 → zMm → zMm → Option (Int32 × zMm × zMm)
  | 0, _, _, _, _ => none
  | n + 1, l2, l3, M, P1 => if (300 : Int32) ≤ l3 then some (((-4) : Int32), M, P1) else if (M 2 0) ≤ l2 then some (((-4) : Int32), M, P1) else zb1 (f_X7_byteAt M l2) (fun (r5 : Int32) => zb1 (f_X7_numbersBehind r5) (fun (r7 : Int32) => zb2 (f_X7_readItem M l2 r7) (fun (r9 : Int32) (M_10 : zMm) => if r9 = (-1) then some (l2, M_10, P1) else zb2 (f_X5_takes P1 (fun j => M_10 (1 + j)) r5) (fun (r13 : Int32) (P1_14 : zMm) => if r13 = 0 then some (l2, M_10, P1_14) else zv (l3 + 1) (fun (x17 : Int32) => L_X7_readInto_8  n r9 x17 M_10 P1_14)))))
def f_X7_readInto (M : zMm) (P1 : zMm) : Option (Int32 × zMm × zMm) := zb1 (f_X5_clear P1) (fun (P1_1 : zMm) => L_X7_readInto_8 100000 0 0 M P1_1)
abbrev ww_X7_readInto : List Cond := Cond.code yX7_readInto cX7_readInto 6 (some .int) :: wG
theorem q_X7_readInto : yX7_readInto.cls = RX7 ∧ yX7_readInto.cls ≠ "java/lang/invoke/MethodHandle" ∧ yX7_readInto.cls ≠ "java/lang/invoke/VarHandle" ∧ (parseMethodDescriptor yX7_readInto.desc).map (fun d => d.parameters.length) = some 1 := by decide +kernel
set_option maxHeartbeats 4000000 in
set_option maxRecDepth 100000 in
theorem c_X7_readInto (l : Launch) (D : va_G) (cI cB : ClassId) (hM : Nat → Nat) (hP1 : Nat → Nat) (M : zMm) (P1 : zMm) (r0 : Int32) (M0 : zMm) (P10 : zMm) (hf : f_X7_readInto M P1 = some (r0, M0, P10)) : zMi l yX7_readInto ww_X7_readInto ({ frames := 3, cells := 0, slots := 0, locals := 69 } : Room) D cI cB [.ref (hM 0), .ref (hP1 0)] (w7 cI cB hM M ++ w5 cI cB hP1 P1) r0 (w7 cI cB hM M0 ++ w5 cI cB hP1 P10) := by
  refine zofI (cc := cX7_readInto) (maxL := 6) (ret := (some .int)) (by decide +kernel) rfl (Nat.le_of_ble_eq_true rfl) ?_
  intro p e s m below meth c A ls hx hb hml hr hown hts hlocks hK hP hD hS hA hl
  have hl : lv_has ls 6 [(0, .ref (hM 0)), (1, .ref (hP1 0))] := hl
  have hown : s.vm.findClass RX7 = some m.cls := hown
  have hG : ∀ w ∈ wG, w ∈ ww_X7_readInto := fun w h => List.mem_cons_of_mem _ h
  have hi7 : ∀ w ∈ wsX70, w ∈ ww_X7_readInto := fun w h => List.mem_cons_of_mem _ (z_inX7 w h)
  have L8 : ∀  (n : Nat) (l2 : Int32) (l3 : Int32) (M : zMm) (P1 : zMm), L_X7_readInto_8  n l2 l3 M P1 = some (r0, M0, P10) → zAt p l e ({ frames := 3, cells := 0, slots := 0, locals := 69 } : Room) s m [.ref (hM 0), .ref (hP1 0)].toArray below meth c (MQ below (zQi D cI cB r0 (w7 cI cB hM M0 ++ w5 cI cB hP1 P10) A) [.ref (hM 0), .ref (hP1 0)].toArray s 0 0 A) A D 6 (w7 cI cB hM M ++ w5 cI cB hP1 P1) [(0, .ref (hM 0)), (1, .ref (hP1 0)), (2, .int l2), (3, .int l3)] 8 [] := by
    intro n
    induction n with
    | zero => intro l2 l3 M P1 hf; simp [L_X7_readInto_8] at hf
    | succ n ih =>
      intro l2 l3 M P1 hf H locs ls hP hD hS hl
      rw [L_X7_readInto_8] at hf
      refine lv_iload_n hx hb dX7_readInto_8 rfl (lv_at hl 3 rfl) ?_
      refine lv_sipush (v := 300) hx hb dX7_readInto_9 (by decide) ?_
      refine lv_icmp_ge (tgt := 72) hx hb dX7_readInto_12 (by decide) (fun c_3 => ?_) (fun c_3 => ?_)
      · replace hf := zit c_3 hf
        refine lv_bipush (v := (-4)) hx hb dX7_readInto_72 (by decide) ?_
        cases hf
        exact zretI hx hb hr hlocks hK hP hD hS dX7_readInto_74
      · replace hf := zif c_3 hf
        refine lv_iload_n hx hb dX7_readInto_15 rfl (lv_at hl 2 rfl) ?_
        refine lv_aload_n hx hb dX7_readInto_16 rfl (lv_at hl 0 rfl) ?_
        refine va_get (D := D) (ci := 7) (v := .int (M 2 0)) (C := RX7) (T := TX7) (N := 3) hx hb hts hi7 hown hK hP 0 rfl rfl 2 (Nat.le_of_ble_eq_true rfl) (hts _ (List.mem_cons_of_mem _ wd_32)) (fun _ h9 => h9) rfl dX7_readInto_17 ?_
        refine lv_icmp_ge (tgt := 72) hx hb dX7_readInto_20 (by decide) (fun c_4 => ?_) (fun c_4 => ?_)
        · replace hf := zit c_4 hf
          refine lv_bipush (v := (-4)) hx hb dX7_readInto_72 (by decide) ?_
          cases hf
          exact zretI hx hb hr hlocks hK hP hD hS dX7_readInto_74
        · replace hf := zif c_4 hf
          refine lv_aload_n hx hb dX7_readInto_23 rfl (lv_at hl 0 rfl) ?_
          refine lv_iload_n hx hb dX7_readInto_24 rfl (lv_at hl 2 rfl) ?_
          obtain ⟨r5, hq6, hf⟩ := zb1_some hf
          refine zcallVi (ws2 := (w7 cI cB hM M ++ w5 cI cB hP1 P1)) (rest := []) ⟨hx, hb, hml, hown, hts⟩ (c_X7_byteAt l D cI cB hM M l2 r5 hq6) (cwV 1 hts (z_gV hG wd_292 wd_294 wd_s0 wd_2 wd_295) rfl rfl rfl q_X7_byteAt ⟨Nat.le_of_ble_eq_true rfl, Nat.le_of_ble_eq_true rfl⟩) hK hP hD hS hA 7 rfl rfl rfl [0, 1] [2, 3, 4, 5, 6, 7, 8, 9] rfl rfl rfl rfl rfl rfl rfl hl.1 (Nat.le_of_ble_eq_true rfl) dX7_readInto_25 ⟨Nat.zero_le _, Nat.zero_le _⟩ rfl (fun H locs hP hD hS => ?_)
          refine lv_istore (lv' := [(4, .int r5), (0, .ref (hM 0)), (1, .ref (hP1 0)), (2, .int l2), (3, .int l3)]) hx hb dX7_readInto_28 hl (by decide) rfl (fun ls hl => ?_)
          refine lv_aload_n hx hb dX7_readInto_30 rfl (lv_at hl 1 rfl) ?_
          refine lv_iload_n hx hb dX7_readInto_31 rfl (lv_at hl 3 rfl) ?_
          refine lv_iload hx hb dX7_readInto_32 (lv_at hl 0 rfl) ?_
          obtain ⟨r7, hq8, hf⟩ := zb1_some hf
          refine zcallSi (rest := [.int l2, .ref (hM 0)]) ⟨hx, hb, hml, hown, hts⟩ (c_X7_numbersBehind l D cI cB r5 r7 hq8) (z_cwS 1 hts (z_gS hG wd_296 wd_297 wd_2 wd_298) rfl rfl rfl q_X7_numbersBehind ⟨Nat.le_of_ble_eq_true rfl, Nat.le_of_ble_eq_true rfl⟩) hK hP hD hS hA rfl hl.1 (Nat.le_of_ble_eq_true rfl) dX7_readInto_34 ⟨Nat.zero_le _, Nat.zero_le _⟩ rfl (fun H locs hP hD hS => ?_)
          obtain ⟨r9, M_10, hq11, hf⟩ := zb2_some hf
          refine zcallVi (ws2 := (w7 cI cB hM M_10 ++ w5 cI cB hP1 P1)) (rest := []) ⟨hx, hb, hml, hown, hts⟩ (c_X7_readItem l D cI cB hM M l2 r7 r9 M_10 hq11) (cwV 2 hts (z_gV hG wd_299 wd_301 wd_s1 wd_2 wd_302) rfl rfl rfl q_X7_readItem ⟨Nat.le_of_ble_eq_true rfl, Nat.le_of_ble_eq_true rfl⟩) hK hP hD hS hA 7 rfl rfl rfl [0, 1, 2] [3, 4, 5, 6, 7, 8, 9] rfl rfl rfl rfl rfl rfl rfl hl.1 (Nat.le_of_ble_eq_true rfl) dX7_readInto_37 ⟨Nat.zero_le _, Nat.zero_le _⟩ rfl (fun H locs hP hD hS => ?_)
          refine lv_istore (lv' := [(5, .int r9), (4, .int r5), (0, .ref (hM 0)), (1, .ref (hP1 0)), (2, .int l2), (3, .int l3)]) hx hb dX7_readInto_40 hl (by decide) rfl (fun ls hl => ?_)
          refine lv_iload hx hb dX7_readInto_42 (lv_at hl 0 rfl) ?_
          refine lv_iconst (v := (-1)) hx hb dX7_readInto_44 (by decide) ?_
          refine lv_icmp_eq (tgt := 61) hx hb dX7_readInto_45 (by decide) (fun c_12 => ?_) (fun c_12 => ?_)
          · replace hf := zit c_12 hf
            refine lv_iload_n hx hb dX7_readInto_61 rfl (lv_at hl 4 rfl) ?_
            cases hf
            exact zretI hx hb hr hlocks hK hP hD hS dX7_readInto_62
          · replace hf := zif c_12 hf
            refine lv_aload_n hx hb dX7_readInto_48 rfl (lv_at hl 3 rfl) ?_
            refine lv_iload hx hb dX7_readInto_49 (lv_at hl 1 rfl) ?_
            refine lv_aload_n hx hb dX7_readInto_51 rfl (lv_at hl 2 rfl) ?_
            refine va_get (D := D) (ci := 7) (v := .ref (hM 2)) (C := RX7) (T := TX7) (N := 3) hx hb hts hi7 hown hK hP 0 rfl rfl 1 (Nat.le_of_ble_eq_true rfl) (hts _ (List.mem_cons_of_mem _ wd_31)) (fun _ h9 => h9) rfl dX7_readInto_52 ?_
            obtain ⟨r13, P1_14, hq15, hf⟩ := zb2_some hf
            refine zcallVi (ws2 := (w7 cI cB hM M_10 ++ w5 cI cB hP1 P1_14)) (rest := []) ⟨hx, hb, hml, hown, hts⟩ (c_X5_takes l D cI cB hP1 (fun j => hM (2 + j)) P1 (fun j => M_10 (1 + j)) r5 r13 P1_14 hq15) (cwV 2 hts (z_gV hG wd_307 wd_308 wd_309 wd_10 wd_310) rfl rfl rfl q_X5_takes ⟨Nat.le_of_ble_eq_true rfl, Nat.le_of_ble_eq_true rfl⟩) hK hP hD hS hA 5 rfl rfl rfl [3, 4, 5, 6, 7, 8, 9, 2] [0, 1] rfl rfl rfl rfl rfl rfl rfl hl.1 (Nat.le_of_ble_eq_true rfl) dX7_readInto_55 ⟨Nat.zero_le _, Nat.zero_le _⟩ rfl (fun H locs hP hD hS => ?_)
            refine lv_if_ne (tgt := 63) hx hb dX7_readInto_58 (by decide) (fun c_16 => ?_) (fun c_16 => ?_)
            · replace hf := zif c_16 hf
              refine lv_iload hx hb dX7_readInto_63 (lv_at hl 0 rfl) ?_
              refine lv_istore_n (lv' := [(2, .int r9), (5, .int r9), (4, .int r5), (0, .ref (hM 0)), (1, .ref (hP1 0)), (3, .int l3)]) hx hb dX7_readInto_65 rfl hl (by decide) rfl (fun ls hl => ?_)
              obtain ⟨x17, e_x17, hf⟩ := zv_some hf
              refine lv_iinc (v := x17) (lv' := [(3, .int x17), (2, .int r9), (5, .int r9), (4, .int r5), (0, .ref (hM 0)), (1, .ref (hP1 0))]) hx hb dX7_readInto_66 hl (k := 5) rfl (by rw [e_x17]; rfl) (by decide) rfl (fun ls hl => ?_)
              refine lv_goto (tgt := 8) hx hb dX7_readInto_69 (by decide) ?_
              exact ih _ _ _ _ hf _ _ _ hP hD hS (lv_sub hl [4, 5, 1, 0] rfl)
            · replace hf := zit c_16 hf
              refine lv_iload_n hx hb dX7_readInto_61 rfl (lv_at hl 4 rfl) ?_
              cases hf
              exact zretI hx hb hr hlocks hK hP hD hS dX7_readInto_62
  unfold f_X7_readInto at hf
  refine lv_aload_n hx hb dX7_readInto_0 rfl (lv_at hl 1 rfl) ?_
  obtain ⟨P1_1, hq2, hf⟩ := zb1_some hf
  refine zcallVv (ws2 := (w7 cI cB hM M ++ w5 cI cB hP1 P1_1)) (rest := []) ⟨hx, hb, hml, hown, hts⟩ (c_X5_clear l D cI cB hP1 P1 P1_1 hq2) (cwV 0 hts (z_gV hG wd_288 wd_289 wd_290 wd_10 wd_291) rfl rfl rfl q_X5_clear ⟨Nat.le_of_ble_eq_true rfl, Nat.le_of_ble_eq_true rfl⟩) hK hP hD hS hA 5 rfl rfl rfl [3, 4, 5, 6, 7, 8, 9] [0, 1, 2] rfl rfl rfl rfl rfl rfl rfl hl.1 (Nat.le_of_ble_eq_true rfl) dX7_readInto_1 ⟨Nat.zero_le _, Nat.zero_le _⟩ rfl (fun H locs hP hD hS => ?_)
  refine lv_iconst (v := 0) hx hb dX7_readInto_4 (by decide) ?_
  refine lv_istore_n (lv' := [(2, .int 0), (0, .ref (hM 0)), (1, .ref (hP1 0))]) hx hb dX7_readInto_5 rfl hl (by decide) rfl (fun ls hl => ?_)
  refine lv_iconst (v := 0) hx hb dX7_readInto_6 (by decide) ?_
  refine lv_istore_n (lv' := [(3, .int 0), (2, .int 0), (0, .ref (hM 0)), (1, .ref (hP1 0))]) hx hb dX7_readInto_7 rfl hl (by decide) rfl (fun ls hl => ?_)
  exact L8 _ _ _ _ _ hf _ _ _ hP hD hS (lv_sub hl [2, 3, 1, 0] rfl)
end
