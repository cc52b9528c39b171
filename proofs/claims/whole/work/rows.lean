section
-- ===== PART A: goes FIRST, ahead of the names: the tables' words, and 'selects' of the private methods out of them =====
/-- a private method of a class that the tables say can be made, by its rows of tables_1 -/
def lw_okq (q : MethodName × Nat) : Prop := (q.1.cls ≠ "java/lang/invoke/MethodHandle" ∧ q.1.cls ≠ "java/lang/invoke/VarHandle") ∧ Cond.instantiable q.1.cls q.2 ∈ tables_1 ∧ Cond.privateMethod q.1 ∈ tables_1 ∧ Cond.instanceMethod q.1 ∈ tables_1
theorem lw_p0 : lw_okq (⟨"SuitByTailors$Text", "byteAt", "(I)I"⟩, 3) := ⟨⟨by decide +kernel, by decide +kernel⟩, List.mem_of_getElem? (i := 25) (by decide +kernel), List.mem_of_getElem? (i := 293) (by decide +kernel), List.mem_of_getElem? (i := 294) (by decide +kernel)⟩
theorem lw_p1 : lw_okq (⟨"SuitByTailors$Text", "readItem", "(II)I"⟩, 3) := ⟨⟨by decide +kernel, by decide +kernel⟩, List.mem_of_getElem? (i := 25) (by decide +kernel), List.mem_of_getElem? (i := 300) (by decide +kernel), List.mem_of_getElem? (i := 301) (by decide +kernel)⟩
theorem lw_p2 : lw_okq (⟨"SuitByTailors$Text", "readNumber", "(II)I"⟩, 3) := ⟨⟨by decide +kernel, by decide +kernel⟩, List.mem_of_getElem? (i := 25) (by decide +kernel), List.mem_of_getElem? (i := 304) (by decide +kernel), List.mem_of_getElem? (i := 305) (by decide +kernel)⟩
theorem lw_p3 : lw_okq (⟨"SuitByTailors$Plan", "takesTailor", "(I)Z"⟩, 12) := ⟨⟨by decide +kernel, by decide +kernel⟩, List.mem_of_getElem? (i := 173) (by decide +kernel), List.mem_of_getElem? (i := 312) (by decide +kernel), List.mem_of_getElem? (i := 313) (by decide +kernel)⟩
theorem lw_p4 : lw_okq (⟨"SuitByTailors$Plan", "takesPart", "(III)Z"⟩, 12) := ⟨⟨by decide +kernel, by decide +kernel⟩, List.mem_of_getElem? (i := 173) (by decide +kernel), List.mem_of_getElem? (i := 316) (by decide +kernel), List.mem_of_getElem? (i := 317) (by decide +kernel)⟩
theorem lw_p5 : lw_okq (⟨"SuitByTailors$Plan", "takesSeam", "(II)Z"⟩, 12) := ⟨⟨by decide +kernel, by decide +kernel⟩, List.mem_of_getElem? (i := 173) (by decide +kernel), List.mem_of_getElem? (i := 324) (by decide +kernel), List.mem_of_getElem? (i := 325) (by decide +kernel)⟩
theorem lw_p6 : lw_okq (⟨"SuitByTailors$Plan", "takesGap", "(I)Z"⟩, 12) := ⟨⟨by decide +kernel, by decide +kernel⟩, List.mem_of_getElem? (i := 173) (by decide +kernel), List.mem_of_getElem? (i := 332) (by decide +kernel), List.mem_of_getElem? (i := 333) (by decide +kernel)⟩
theorem lw_p7 : lw_okq (⟨"SuitByTailors$Plan", "takesBoy", "(I)Z"⟩, 12) := ⟨⟨by decide +kernel, by decide +kernel⟩, List.mem_of_getElem? (i := 173) (by decide +kernel), List.mem_of_getElem? (i := 336) (by decide +kernel), List.mem_of_getElem? (i := 337) (by decide +kernel)⟩
theorem lw_p8 : lw_okq (⟨"SuitByTailors$Plan", "takesBolt", "(I)Z"⟩, 12) := ⟨⟨by decide +kernel, by decide +kernel⟩, List.mem_of_getElem? (i := 173) (by decide +kernel), List.mem_of_getElem? (i := 340) (by decide +kernel), List.mem_of_getElem? (i := 341) (by decide +kernel)⟩
theorem lw_p9 : lw_okq (⟨"SuitByTailors", "slipNow", "(I)I"⟩, 14) := ⟨⟨by decide +kernel, by decide +kernel⟩, List.mem_of_getElem? (i := 17) (by decide +kernel), List.mem_of_getElem? (i := 417) (by decide +kernel), List.mem_of_getElem? (i := 418) (by decide +kernel)⟩
theorem lw_p10 : lw_okq (⟨"SuitByTailors", "lengthNow", "(I)I"⟩, 14) := ⟨⟨by decide +kernel, by decide +kernel⟩, List.mem_of_getElem? (i := 17) (by decide +kernel), List.mem_of_getElem? (i := 439) (by decide +kernel), List.mem_of_getElem? (i := 440) (by decide +kernel)⟩
theorem lw_p11 : lw_okq (⟨"SuitByTailors", "measureNow", "()V"⟩, 14) := ⟨⟨by decide +kernel, by decide +kernel⟩, List.mem_of_getElem? (i := 17) (by decide +kernel), List.mem_of_getElem? (i := 451) (by decide +kernel), List.mem_of_getElem? (i := 452) (by decide +kernel)⟩
theorem lw_p12 : lw_okq (⟨"SuitByTailors$OrderSearch", "tryPlace", "(LSuitByTailors$Plan;II)V"⟩, 6) := ⟨⟨by decide +kernel, by decide +kernel⟩, List.mem_of_getElem? (i := 128) (by decide +kernel), List.mem_of_getElem? (i := 509) (by decide +kernel), List.mem_of_getElem? (i := 510) (by decide +kernel)⟩
theorem lw_p13 : lw_okq (⟨"SuitByTailors$OrderSearch", "isPlaced", "(I)Z"⟩, 6) := ⟨⟨by decide +kernel, by decide +kernel⟩, List.mem_of_getElem? (i := 128) (by decide +kernel), List.mem_of_getElem? (i := 513) (by decide +kernel), List.mem_of_getElem? (i := 514) (by decide +kernel)⟩
theorem lw_p14 : lw_okq (⟨"SuitByTailors$OrderSearch", "tryPart", "(LSuitByTailors$Plan;III)V"⟩, 6) := ⟨⟨by decide +kernel, by decide +kernel⟩, List.mem_of_getElem? (i := 128) (by decide +kernel), List.mem_of_getElem? (i := 517) (by decide +kernel), List.mem_of_getElem? (i := 518) (by decide +kernel)⟩
theorem lw_p15 : lw_okq (⟨"SuitByTailors$OrderSearch", "gapsWithPlaced", "(LSuitByTailors$Plan;I)I"⟩, 6) := ⟨⟨by decide +kernel, by decide +kernel⟩, List.mem_of_getElem? (i := 128) (by decide +kernel), List.mem_of_getElem? (i := 523) (by decide +kernel), List.mem_of_getElem? (i := 524) (by decide +kernel)⟩
def lw_privs_1 : List (MethodName × Nat) := [(⟨"SuitByTailors$Text", "byteAt", "(I)I"⟩, 3), (⟨"SuitByTailors$Text", "readItem", "(II)I"⟩, 3), (⟨"SuitByTailors$Text", "readNumber", "(II)I"⟩, 3), (⟨"SuitByTailors$Plan", "takesTailor", "(I)Z"⟩, 12), (⟨"SuitByTailors$Plan", "takesPart", "(III)Z"⟩, 12), (⟨"SuitByTailors$Plan", "takesSeam", "(II)Z"⟩, 12), (⟨"SuitByTailors$Plan", "takesGap", "(I)Z"⟩, 12), (⟨"SuitByTailors$Plan", "takesBoy", "(I)Z"⟩, 12), (⟨"SuitByTailors$Plan", "takesBolt", "(I)Z"⟩, 12), (⟨"SuitByTailors", "slipNow", "(I)I"⟩, 14), (⟨"SuitByTailors", "lengthNow", "(I)I"⟩, 14), (⟨"SuitByTailors", "measureNow", "()V"⟩, 14), (⟨"SuitByTailors$OrderSearch", "tryPlace", "(LSuitByTailors$Plan;II)V"⟩, 6), (⟨"SuitByTailors$OrderSearch", "isPlaced", "(I)Z"⟩, 6), (⟨"SuitByTailors$OrderSearch", "tryPart", "(LSuitByTailors$Plan;III)V"⟩, 6), (⟨"SuitByTailors$OrderSearch", "gapsWithPlaced", "(LSuitByTailors$Plan;I)I"⟩, 6)]
theorem lw_r1 : ∀ q ∈ lw_privs_1, lw_okq q := List.forall_mem_cons.mpr ⟨lw_p0, List.forall_mem_cons.mpr ⟨lw_p1, List.forall_mem_cons.mpr ⟨lw_p2, List.forall_mem_cons.mpr ⟨lw_p3, List.forall_mem_cons.mpr ⟨lw_p4, List.forall_mem_cons.mpr ⟨lw_p5, List.forall_mem_cons.mpr ⟨lw_p6, List.forall_mem_cons.mpr ⟨lw_p7, List.forall_mem_cons.mpr ⟨lw_p8, List.forall_mem_cons.mpr ⟨lw_p9, List.forall_mem_cons.mpr ⟨lw_p10, List.forall_mem_cons.mpr ⟨lw_p11, List.forall_mem_cons.mpr ⟨lw_p12, List.forall_mem_cons.mpr ⟨lw_p13, List.forall_mem_cons.mpr ⟨lw_p14, List.forall_mem_cons.mpr ⟨lw_p15, fun _ h => absurd h List.not_mem_nil⟩⟩⟩⟩⟩⟩⟩⟩⟩⟩⟩⟩⟩⟩⟩⟩
theorem lw_p16 : lw_okq (⟨"SuitByTailors", "isClosedByBribing", "(I)Z"⟩, 14) := ⟨⟨by decide +kernel, by decide +kernel⟩, List.mem_of_getElem? (i := 17) (by decide +kernel), List.mem_of_getElem? (i := 536) (by decide +kernel), List.mem_of_getElem? (i := 537) (by decide +kernel)⟩
theorem lw_p17 : lw_okq (⟨"SuitByTailors", "levelSeams", "()V"⟩, 14) := ⟨⟨by decide +kernel, by decide +kernel⟩, List.mem_of_getElem? (i := 17) (by decide +kernel), List.mem_of_getElem? (i := 544) (by decide +kernel), List.mem_of_getElem? (i := 545) (by decide +kernel)⟩
theorem lw_p18 : lw_okq (⟨"SuitByTailors$BoltSearch", "findsBolts", "(LSuitByTailors$Plan;[III)Z"⟩, 3) := ⟨⟨by decide +kernel, by decide +kernel⟩, List.mem_of_getElem? (i := 156) (by decide +kernel), List.mem_of_getElem? (i := 586) (by decide +kernel), List.mem_of_getElem? (i := 587) (by decide +kernel)⟩
theorem lw_p19 : lw_okq (⟨"SuitByTailors$BoltSearch", "findsRest", "(LSuitByTailors$Plan;[III)Z"⟩, 3) := ⟨⟨by decide +kernel, by decide +kernel⟩, List.mem_of_getElem? (i := 156) (by decide +kernel), List.mem_of_getElem? (i := 590) (by decide +kernel), List.mem_of_getElem? (i := 591) (by decide +kernel)⟩
theorem lw_p20 : lw_okq (⟨"SuitByTailors", "cutByBoy", "(I)V"⟩, 14) := ⟨⟨by decide +kernel, by decide +kernel⟩, List.mem_of_getElem? (i := 17) (by decide +kernel), List.mem_of_getElem? (i := 624) (by decide +kernel), List.mem_of_getElem? (i := 625) (by decide +kernel)⟩
theorem lw_p21 : lw_okq (⟨"SuitByTailorsModel", "begins", "()V"⟩, 23) := ⟨⟨by decide +kernel, by decide +kernel⟩, List.mem_of_getElem? (i := 640) (by decide +kernel), List.mem_of_getElem? (i := 646) (by decide +kernel), List.mem_of_getElem? (i := 647) (by decide +kernel)⟩
theorem lw_p22 : lw_okq (⟨"SuitByTailorsModel", "takes", "()V"⟩, 23) := ⟨⟨by decide +kernel, by decide +kernel⟩, List.mem_of_getElem? (i := 640) (by decide +kernel), List.mem_of_getElem? (i := 650) (by decide +kernel), List.mem_of_getElem? (i := 651) (by decide +kernel)⟩
theorem lw_p23 : lw_okq (⟨"SuitByTailorsModel", "isItem", "()Z"⟩, 23) := ⟨⟨by decide +kernel, by decide +kernel⟩, List.mem_of_getElem? (i := 640) (by decide +kernel), List.mem_of_getElem? (i := 740) (by decide +kernel), List.mem_of_getElem? (i := 741) (by decide +kernel)⟩
theorem lw_p24 : lw_okq (⟨"SuitByTailorsModel", "number", "()I"⟩, 23) := ⟨⟨by decide +kernel, by decide +kernel⟩, List.mem_of_getElem? (i := 640) (by decide +kernel), List.mem_of_getElem? (i := 747) (by decide +kernel), List.mem_of_getElem? (i := 748) (by decide +kernel)⟩
theorem lw_p25 : lw_okq (⟨"SuitByTailorsModel", "isGood", "(I)Z"⟩, 23) := ⟨⟨by decide +kernel, by decide +kernel⟩, List.mem_of_getElem? (i := 640) (by decide +kernel), List.mem_of_getElem? (i := 754) (by decide +kernel), List.mem_of_getElem? (i := 755) (by decide +kernel)⟩
theorem lw_p26 : lw_okq (⟨"SuitByTailorsModel", "isPart", "(I)Z"⟩, 23) := ⟨⟨by decide +kernel, by decide +kernel⟩, List.mem_of_getElem? (i := 640) (by decide +kernel), List.mem_of_getElem? (i := 771) (by decide +kernel), List.mem_of_getElem? (i := 772) (by decide +kernel)⟩
theorem lw_p27 : lw_okq (⟨"SuitByTailorsModel", "placeOf", "(I)I"⟩, 23) := ⟨⟨by decide +kernel, by decide +kernel⟩, List.mem_of_getElem? (i := 640) (by decide +kernel), List.mem_of_getElem? (i := 776) (by decide +kernel), List.mem_of_getElem? (i := 777) (by decide +kernel)⟩
theorem lw_p28 : lw_okq (⟨"SuitByTailorsModel", "slipNow", "(I)I"⟩, 23) := ⟨⟨by decide +kernel, by decide +kernel⟩, List.mem_of_getElem? (i := 640) (by decide +kernel), List.mem_of_getElem? (i := 780) (by decide +kernel), List.mem_of_getElem? (i := 781) (by decide +kernel)⟩
theorem lw_p29 : lw_okq (⟨"SuitByTailorsModel", "cutOf", "(II)I"⟩, 23) := ⟨⟨by decide +kernel, by decide +kernel⟩, List.mem_of_getElem? (i := 640) (by decide +kernel), List.mem_of_getElem? (i := 791) (by decide +kernel), List.mem_of_getElem? (i := 792) (by decide +kernel)⟩
theorem lw_p30 : lw_okq (⟨"SuitByTailorsModel", "lengths", "()V"⟩, 23) := ⟨⟨by decide +kernel, by decide +kernel⟩, List.mem_of_getElem? (i := 640) (by decide +kernel), List.mem_of_getElem? (i := 800) (by decide +kernel), List.mem_of_getElem? (i := 801) (by decide +kernel)⟩
theorem lw_p31 : lw_okq (⟨"SuitByTailorsModel", "gaps", "()I"⟩, 23) := ⟨⟨by decide +kernel, by decide +kernel⟩, List.mem_of_getElem? (i := 640) (by decide +kernel), List.mem_of_getElem? (i := 804) (by decide +kernel), List.mem_of_getElem? (i := 805) (by decide +kernel)⟩
def lw_privs_2 : List (MethodName × Nat) := [(⟨"SuitByTailors", "isClosedByBribing", "(I)Z"⟩, 14), (⟨"SuitByTailors", "levelSeams", "()V"⟩, 14), (⟨"SuitByTailors$BoltSearch", "findsBolts", "(LSuitByTailors$Plan;[III)Z"⟩, 3), (⟨"SuitByTailors$BoltSearch", "findsRest", "(LSuitByTailors$Plan;[III)Z"⟩, 3), (⟨"SuitByTailors", "cutByBoy", "(I)V"⟩, 14), (⟨"SuitByTailorsModel", "begins", "()V"⟩, 23), (⟨"SuitByTailorsModel", "takes", "()V"⟩, 23), (⟨"SuitByTailorsModel", "isItem", "()Z"⟩, 23), (⟨"SuitByTailorsModel", "number", "()I"⟩, 23), (⟨"SuitByTailorsModel", "isGood", "(I)Z"⟩, 23), (⟨"SuitByTailorsModel", "isPart", "(I)Z"⟩, 23), (⟨"SuitByTailorsModel", "placeOf", "(I)I"⟩, 23), (⟨"SuitByTailorsModel", "slipNow", "(I)I"⟩, 23), (⟨"SuitByTailorsModel", "cutOf", "(II)I"⟩, 23), (⟨"SuitByTailorsModel", "lengths", "()V"⟩, 23), (⟨"SuitByTailorsModel", "gaps", "()I"⟩, 23)]
theorem lw_r2 : ∀ q ∈ lw_privs_2, lw_okq q := List.forall_mem_cons.mpr ⟨lw_p16, List.forall_mem_cons.mpr ⟨lw_p17, List.forall_mem_cons.mpr ⟨lw_p18, List.forall_mem_cons.mpr ⟨lw_p19, List.forall_mem_cons.mpr ⟨lw_p20, List.forall_mem_cons.mpr ⟨lw_p21, List.forall_mem_cons.mpr ⟨lw_p22, List.forall_mem_cons.mpr ⟨lw_p23, List.forall_mem_cons.mpr ⟨lw_p24, List.forall_mem_cons.mpr ⟨lw_p25, List.forall_mem_cons.mpr ⟨lw_p26, List.forall_mem_cons.mpr ⟨lw_p27, List.forall_mem_cons.mpr ⟨lw_p28, List.forall_mem_cons.mpr ⟨lw_p29, List.forall_mem_cons.mpr ⟨lw_p30, List.forall_mem_cons.mpr ⟨lw_p31, fun _ h => absurd h List.not_mem_nil⟩⟩⟩⟩⟩⟩⟩⟩⟩⟩⟩⟩⟩⟩⟩⟩
theorem lw_p32 : lw_okq (⟨"SuitByTailorsModel", "gapOf", "(I)I"⟩, 23) := ⟨⟨by decide +kernel, by decide +kernel⟩, List.mem_of_getElem? (i := 640) (by decide +kernel), List.mem_of_getElem? (i := 808) (by decide +kernel), List.mem_of_getElem? (i := 809) (by decide +kernel)⟩
theorem lw_p33 : lw_okq (⟨"SuitByTailorsModel", "isClosed", "()Z"⟩, 23) := ⟨⟨by decide +kernel, by decide +kernel⟩, List.mem_of_getElem? (i := 640) (by decide +kernel), List.mem_of_getElem? (i := 816) (by decide +kernel), List.mem_of_getElem? (i := 817) (by decide +kernel)⟩
theorem lw_p34 : lw_okq (⟨"SuitByTailorsModel", "known", "()V"⟩, 23) := ⟨⟨by decide +kernel, by decide +kernel⟩, List.mem_of_getElem? (i := 640) (by decide +kernel), List.mem_of_getElem? (i := 824) (by decide +kernel), List.mem_of_getElem? (i := 825) (by decide +kernel)⟩
theorem lw_p35 : lw_okq (⟨"SuitByTailorsModel", "copies", "(II)V"⟩, 23) := ⟨⟨by decide +kernel, by decide +kernel⟩, List.mem_of_getElem? (i := 640) (by decide +kernel), List.mem_of_getElem? (i := 828) (by decide +kernel), List.mem_of_getElem? (i := 829) (by decide +kernel)⟩
theorem lw_p36 : lw_okq (⟨"SuitByTailorsModel", "nextOrder", "()Z"⟩, 23) := ⟨⟨by decide +kernel, by decide +kernel⟩, List.mem_of_getElem? (i := 640) (by decide +kernel), List.mem_of_getElem? (i := 848) (by decide +kernel), List.mem_of_getElem? (i := 849) (by decide +kernel)⟩
theorem lw_p37 : lw_okq (⟨"SuitByTailorsModel", "isTailor", "(I)Z"⟩, 23) := ⟨⟨by decide +kernel, by decide +kernel⟩, List.mem_of_getElem? (i := 640) (by decide +kernel), List.mem_of_getElem? (i := 864) (by decide +kernel), List.mem_of_getElem? (i := 865) (by decide +kernel)⟩
theorem lw_p38 : lw_okq (⟨"SuitByTailorsModel", "many", "()I"⟩, 23) := ⟨⟨by decide +kernel, by decide +kernel⟩, List.mem_of_getElem? (i := 640) (by decide +kernel), List.mem_of_getElem? (i := 884) (by decide +kernel), List.mem_of_getElem? (i := 885) (by decide +kernel)⟩
theorem lw_p39 : lw_okq (⟨"SuitByTailorsModel", "nextBolts", "()Z"⟩, 23) := ⟨⟨by decide +kernel, by decide +kernel⟩, List.mem_of_getElem? (i := 640) (by decide +kernel), List.mem_of_getElem? (i := 888) (by decide +kernel), List.mem_of_getElem? (i := 889) (by decide +kernel)⟩
theorem lw_p40 : lw_okq (⟨"SuitByTailorsModel", "tailorOf", "(II)I"⟩, 23) := ⟨⟨by decide +kernel, by decide +kernel⟩, List.mem_of_getElem? (i := 640) (by decide +kernel), List.mem_of_getElem? (i := 900) (by decide +kernel), List.mem_of_getElem? (i := 901) (by decide +kernel)⟩
def lw_privs_3 : List (MethodName × Nat) := [(⟨"SuitByTailorsModel", "gapOf", "(I)I"⟩, 23), (⟨"SuitByTailorsModel", "isClosed", "()Z"⟩, 23), (⟨"SuitByTailorsModel", "known", "()V"⟩, 23), (⟨"SuitByTailorsModel", "copies", "(II)V"⟩, 23), (⟨"SuitByTailorsModel", "nextOrder", "()Z"⟩, 23), (⟨"SuitByTailorsModel", "isTailor", "(I)Z"⟩, 23), (⟨"SuitByTailorsModel", "many", "()I"⟩, 23), (⟨"SuitByTailorsModel", "nextBolts", "()Z"⟩, 23), (⟨"SuitByTailorsModel", "tailorOf", "(II)I"⟩, 23)]
theorem lw_r3 : ∀ q ∈ lw_privs_3, lw_okq q := List.forall_mem_cons.mpr ⟨lw_p32, List.forall_mem_cons.mpr ⟨lw_p33, List.forall_mem_cons.mpr ⟨lw_p34, List.forall_mem_cons.mpr ⟨lw_p35, List.forall_mem_cons.mpr ⟨lw_p36, List.forall_mem_cons.mpr ⟨lw_p37, List.forall_mem_cons.mpr ⟨lw_p38, List.forall_mem_cons.mpr ⟨lw_p39, List.forall_mem_cons.mpr ⟨lw_p40, fun _ h => absurd h List.not_mem_nil⟩⟩⟩⟩⟩⟩⟩⟩⟩
def lw_privs : List (MethodName × Nat) := lw_privs_1 ++ (lw_privs_2 ++ (lw_privs_3))
def lw_tbl : List Cond := k2_sels lw_privs ++ tables_1
theorem lw_privs_ok : ∀ q ∈ lw_privs, lw_okq q := by
  show ∀ q ∈ lw_privs_1 ++ (lw_privs_2 ++ (lw_privs_3)), lw_okq q
  exact List.forall_mem_append.mpr ⟨lw_r1, List.forall_mem_append.mpr ⟨lw_r2, lw_r3⟩⟩
end
section
/-! names, fields, codes: as printed for this claim (claim/NAMES.whole), less its word lists -/
def RX0 : String := "SuitByTailors$BoltSearch"
def TX0 : u_T := fun k => match k with
  | 0 => ("SuitByTailors$BoltSearch", "boltOf", "[I", true)
  | 1 => ("SuitByTailors$BoltSearch", "filled", "[I", true)
  | _ => ("SuitByTailors$BoltSearch", "most", "I", false)
def tyX0 : Nat → FieldType := fun k => match k with
  | 0 => .array .int
  | 1 => .array .int
  | _ => .int
abbrev wsX00 : List Cond := u_ws RX0 TX0 3
theorem nmX0 : ∀ a, a < 3 → ∀ b, b < 3 → a ≠ b → (TX0 a).2.1 ≠ (TX0 b).2.1 := by decide +kernel
theorem tyX0_ok : ∀ k, k < 3 → parseFieldDescriptor (TX0 k).2.2.1 = some (tyX0 k) := by decide +kernel
abbrev cX0_init : ByteArray := prog_2_method_1_code
def yX0_init : MethodName := ⟨RX0, "<init>", "()V"⟩
abbrev cX0_search : ByteArray := prog_2_method_2_code
def yX0_search : MethodName := ⟨RX0, "search", "(LSuitByTailors$Plan;[I)I"⟩
abbrev cX0_findsBolts : ByteArray := prog_2_method_3_code
def yX0_findsBolts : MethodName := ⟨RX0, "findsBolts", "(LSuitByTailors$Plan;[III)Z"⟩
abbrev cX0_findsRest : ByteArray := prog_2_method_4_code
def yX0_findsRest : MethodName := ⟨RX0, "findsRest", "(LSuitByTailors$Plan;[III)Z"⟩
def RX1 : String := "SuitByTailors$Fitting"
def TX1 : u_T := fun k => match k with
  | 0 => ("SuitByTailors$Fitting", "partAt", "[I", true)
  | _ => ("SuitByTailors$Fitting", "longerBy", "[I", true)
def tyX1 : Nat → FieldType := fun k => match k with
  | 0 => .array .int
  | _ => .array .int
abbrev wsX10 : List Cond := u_ws RX1 TX1 2
theorem nmX1 : ∀ a, a < 2 → ∀ b, b < 2 → a ≠ b → (TX1 a).2.1 ≠ (TX1 b).2.1 := by decide +kernel
theorem tyX1_ok : ∀ k, k < 2 → parseFieldDescriptor (TX1 k).2.2.1 = some (tyX1 k) := by decide +kernel
abbrev cX1_init : ByteArray := prog_3_method_1_code
def yX1_init : MethodName := ⟨RX1, "<init>", "()V"⟩
abbrev cX1_startAnew : ByteArray := prog_3_method_2_code
def yX1_startAnew : MethodName := ⟨RX1, "startAnew", "()V"⟩
abbrev cX1_placeOf : ByteArray := prog_3_method_3_code
def yX1_placeOf : MethodName := ⟨RX1, "placeOf", "(I)I"⟩
abbrev cX1_swapPlaces : ByteArray := prog_3_method_4_code
def yX1_swapPlaces : MethodName := ⟨RX1, "swapPlaces", "(II)V"⟩
def RX2 : String := "SuitByTailors$FittingStack"
def TX2 : u_T := fun k => match k with
  | 0 => ("SuitByTailors$FittingStack", "most", "I", true)
  | 1 => ("SuitByTailors$FittingStack", "partAt", "[I", true)
  | 2 => ("SuitByTailors$FittingStack", "longerBy", "[I", true)
  | 3 => ("SuitByTailors$FittingStack", "size", "I", false)
  | _ => ("SuitByTailors$FittingStack", "next", "I", false)
def tyX2 : Nat → FieldType := fun k => match k with
  | 0 => .int
  | 1 => .array .int
  | 2 => .array .int
  | 3 => .int
  | _ => .int
abbrev wsX20 : List Cond := u_ws RX2 TX2 5
theorem nmX2 : ∀ a, a < 5 → ∀ b, b < 5 → a ≠ b → (TX2 a).2.1 ≠ (TX2 b).2.1 := by decide +kernel
theorem tyX2_ok : ∀ k, k < 5 → parseFieldDescriptor (TX2 k).2.2.1 = some (tyX2 k) := by decide +kernel
abbrev cX2_init : ByteArray := prog_4_method_1_code
def yX2_init : MethodName := ⟨RX2, "<init>", "(I)V"⟩
abbrev cX2_clear : ByteArray := prog_4_method_2_code
def yX2_clear : MethodName := ⟨RX2, "clear", "()V"⟩
abbrev cX2_push : ByteArray := prog_4_method_3_code
def yX2_push : MethodName := ⟨RX2, "push", "(LSuitByTailors$Fitting;)V"⟩
abbrev cX2_popInto : ByteArray := prog_4_method_4_code
def yX2_popInto : MethodName := ⟨RX2, "popInto", "(LSuitByTailors$Fitting;)V"⟩
def RX3 : String := "SuitByTailors$OrderSearch"
def TX3 : u_T := fun k => match k with
  | 0 => ("SuitByTailors$OrderSearch", "best", "[I", true)
  | 1 => ("SuitByTailors$OrderSearch", "known", "Z", false)
  | 2 => ("SuitByTailors$OrderSearch", "leastSum", "I", false)
  | 3 => ("SuitByTailors$OrderSearch", "tried", "[I", true)
  | 4 => ("SuitByTailors$OrderSearch", "row", "[I", true)
  | _ => ("SuitByTailors$OrderSearch", "placed", "I", false)
def tyX3 : Nat → FieldType := fun k => match k with
  | 0 => .array .int
  | 1 => .boolean
  | 2 => .int
  | 3 => .array .int
  | 4 => .array .int
  | _ => .int
abbrev wsX30 : List Cond := u_ws RX3 TX3 6
theorem nmX3 : ∀ a, a < 6 → ∀ b, b < 6 → a ≠ b → (TX3 a).2.1 ≠ (TX3 b).2.1 := by decide +kernel
theorem tyX3_ok : ∀ k, k < 6 → parseFieldDescriptor (TX3 k).2.2.1 = some (tyX3 k) := by decide +kernel
abbrev cX3_init : ByteArray := prog_5_method_1_code
def yX3_init : MethodName := ⟨RX3, "<init>", "()V"⟩
abbrev cX3_search : ByteArray := prog_5_method_2_code
def yX3_search : MethodName := ⟨RX3, "search", "(LSuitByTailors$Plan;)V"⟩
abbrev cX3_tryPlace : ByteArray := prog_5_method_3_code
def yX3_tryPlace : MethodName := ⟨RX3, "tryPlace", "(LSuitByTailors$Plan;II)V"⟩
abbrev cX3_tryPart : ByteArray := prog_5_method_4_code
def yX3_tryPart : MethodName := ⟨RX3, "tryPart", "(LSuitByTailors$Plan;III)V"⟩
abbrev cX3_gapsWithPlaced : ByteArray := prog_5_method_5_code
def yX3_gapsWithPlaced : MethodName := ⟨RX3, "gapsWithPlaced", "(LSuitByTailors$Plan;I)I"⟩
abbrev cX3_isPlaced : ByteArray := prog_5_method_6_code
def yX3_isPlaced : MethodName := ⟨RX3, "isPlaced", "(I)Z"⟩
def RX4 : String := "SuitByTailors$Pins"
def TX4 : u_T := fun k => match k with
  | 0 => ("SuitByTailors$Pins", "seamOf", "[I", true)
  | 1 => ("SuitByTailors$Pins", "tailorOf", "[I", true)
  | _ => ("SuitByTailors$Pins", "size", "I", false)
def tyX4 : Nat → FieldType := fun k => match k with
  | 0 => .array .int
  | 1 => .array .int
  | _ => .int
abbrev wsX40 : List Cond := u_ws RX4 TX4 3
theorem nmX4 : ∀ a, a < 3 → ∀ b, b < 3 → a ≠ b → (TX4 a).2.1 ≠ (TX4 b).2.1 := by decide +kernel
theorem tyX4_ok : ∀ k, k < 3 → parseFieldDescriptor (TX4 k).2.2.1 = some (tyX4 k) := by decide +kernel
abbrev cX4_init : ByteArray := prog_6_method_1_code
def yX4_init : MethodName := ⟨RX4, "<init>", "()V"⟩
abbrev cX4_add : ByteArray := prog_6_method_2_code
def yX4_add : MethodName := ⟨RX4, "add", "(II)V"⟩
abbrev cX4_countIn : ByteArray := prog_6_method_3_code
def yX4_countIn : MethodName := ⟨RX4, "countIn", "(I)I"⟩
def RX5 : String := "SuitByTailors$Plan"
def TX5 : u_T := fun k => match k with
  | 0 => ("SuitByTailors$Plan", "inches", "[I", true)
  | 1 => ("SuitByTailors$Plan", "tailorOf", "[I", true)
  | 2 => ("SuitByTailors$Plan", "lengthOf", "[I", true)
  | 3 => ("SuitByTailors$Plan", "bribeFor", "[I", true)
  | 4 => ("SuitByTailors$Plan", "firstOf", "[I", true)
  | 5 => ("SuitByTailors$Plan", "secondOf", "[I", true)
  | 6 => ("SuitByTailors$Plan", "tailors", "I", false)
  | 7 => ("SuitByTailors$Plan", "parts", "I", false)
  | 8 => ("SuitByTailors$Plan", "seams", "I", false)
  | 9 => ("SuitByTailors$Plan", "widestGap", "I", false)
  | 10 => ("SuitByTailors$Plan", "boy", "I", false)
  | _ => ("SuitByTailors$Plan", "boltLength", "I", false)
def tyX5 : Nat → FieldType := fun k => match k with
  | 0 => .array .int
  | 1 => .array .int
  | 2 => .array .int
  | 3 => .array .int
  | 4 => .array .int
  | 5 => .array .int
  | 6 => .int
  | 7 => .int
  | 8 => .int
  | 9 => .int
  | 10 => .int
  | _ => .int
abbrev wsX50 : List Cond := u_ws RX5 TX5 12
theorem nmX5 : ∀ a, a < 12 → ∀ b, b < 12 → a ≠ b → (TX5 a).2.1 ≠ (TX5 b).2.1 := by decide +kernel
theorem tyX5_ok : ∀ k, k < 12 → parseFieldDescriptor (TX5 k).2.2.1 = some (tyX5 k) := by decide +kernel
abbrev cX5_init : ByteArray := prog_7_method_1_code
def yX5_init : MethodName := ⟨RX5, "<init>", "()V"⟩
abbrev cX5_clear : ByteArray := prog_7_method_2_code
def yX5_clear : MethodName := ⟨RX5, "clear", "()V"⟩
abbrev cX5_hasTailor : ByteArray := prog_7_method_3_code
def yX5_hasTailor : MethodName := ⟨RX5, "hasTailor", "(I)Z"⟩
abbrev cX5_hasPart : ByteArray := prog_7_method_4_code
def yX5_hasPart : MethodName := ⟨RX5, "hasPart", "(I)Z"⟩
abbrev cX5_hasSeam : ByteArray := prog_7_method_5_code
def yX5_hasSeam : MethodName := ⟨RX5, "hasSeam", "(I)Z"⟩
abbrev cX5_takes : ByteArray := prog_7_method_6_code
def yX5_takes : MethodName := ⟨RX5, "takes", "(I[I)Z"⟩
abbrev cX5_takesTailor : ByteArray := prog_7_method_7_code
def yX5_takesTailor : MethodName := ⟨RX5, "takesTailor", "(I)Z"⟩
abbrev cX5_takesPart : ByteArray := prog_7_method_8_code
def yX5_takesPart : MethodName := ⟨RX5, "takesPart", "(III)Z"⟩
abbrev cX5_takesSeam : ByteArray := prog_7_method_9_code
def yX5_takesSeam : MethodName := ⟨RX5, "takesSeam", "(II)Z"⟩
abbrev cX5_takesGap : ByteArray := prog_7_method_10_code
def yX5_takesGap : MethodName := ⟨RX5, "takesGap", "(I)Z"⟩
abbrev cX5_takesBoy : ByteArray := prog_7_method_11_code
def yX5_takesBoy : MethodName := ⟨RX5, "takesBoy", "(I)Z"⟩
abbrev cX5_takesBolt : ByteArray := prog_7_method_12_code
def yX5_takesBolt : MethodName := ⟨RX5, "takesBolt", "(I)Z"⟩
abbrev cX5_slip : ByteArray := prog_7_method_13_code
def yX5_slip : MethodName := ⟨RX5, "slip", "(III)I"⟩
abbrev cX5_cutLength : ByteArray := prog_7_method_14_code
def yX5_cutLength : MethodName := ⟨RX5, "cutLength", "(II)I"⟩
abbrev cX5_byInch : ByteArray := prog_7_method_15_code
def yX5_byInch : MethodName := ⟨RX5, "byInch", "(II)I"⟩
abbrev cX5_gapOf : ByteArray := prog_7_method_16_code
def yX5_gapOf : MethodName := ⟨RX5, "gapOf", "(I[I)I"⟩
abbrev cX5_sumOfGaps : ByteArray := prog_7_method_17_code
def yX5_sumOfGaps : MethodName := ⟨RX5, "sumOfGaps", "([I)I"⟩
abbrev cX5_isClosedBy : ByteArray := prog_7_method_18_code
def yX5_isClosedBy : MethodName := ⟨RX5, "isClosedBy", "([I)Z"⟩
abbrev cX5_sumOfSet : ByteArray := prog_7_method_19_code
def yX5_sumOfSet : MethodName := ⟨RX5, "sumOfSet", "([II)I"⟩
def RX6 : String := "SuitByTailors$Sightings"
def TX6 : u_T := fun k => match k with
  | 0 => ("SuitByTailors$Sightings", "tailorOf", "[I", true)
  | 1 => ("SuitByTailors$Sightings", "toldOf", "[I", true)
  | 2 => ("SuitByTailors$Sightings", "cutOf", "[I", true)
  | _ => ("SuitByTailors$Sightings", "size", "I", false)
def tyX6 : Nat → FieldType := fun k => match k with
  | 0 => .array .int
  | 1 => .array .int
  | 2 => .array .int
  | _ => .int
abbrev wsX60 : List Cond := u_ws RX6 TX6 4
theorem nmX6 : ∀ a, a < 4 → ∀ b, b < 4 → a ≠ b → (TX6 a).2.1 ≠ (TX6 b).2.1 := by decide +kernel
theorem tyX6_ok : ∀ k, k < 4 → parseFieldDescriptor (TX6 k).2.2.1 = some (tyX6 k) := by decide +kernel
abbrev cX6_init : ByteArray := prog_8_method_1_code
def yX6_init : MethodName := ⟨RX6, "<init>", "()V"⟩
abbrev cX6_add : ByteArray := prog_8_method_2_code
def yX6_add : MethodName := ⟨RX6, "add", "(III)V"⟩
abbrev cX6_agreeWith : ByteArray := prog_8_method_3_code
def yX6_agreeWith : MethodName := ⟨RX6, "agreeWith", "(II)Z"⟩
def RX7 : String := "SuitByTailors$Text"
def TX7 : u_T := fun k => match k with
  | 0 => ("SuitByTailors$Text", "bytes", "[B", true)
  | 1 => ("SuitByTailors$Text", "numbers", "[I", true)
  | _ => ("SuitByTailors$Text", "length", "I", false)
def tyX7 : Nat → FieldType := fun k => match k with
  | 0 => .array .byte
  | 1 => .array .int
  | _ => .int
abbrev wsX70 : List Cond := u_ws RX7 TX7 3
theorem nmX7 : ∀ a, a < 3 → ∀ b, b < 3 → a ≠ b → (TX7 a).2.1 ≠ (TX7 b).2.1 := by decide +kernel
theorem tyX7_ok : ∀ k, k < 3 → parseFieldDescriptor (TX7 k).2.2.1 = some (tyX7 k) := by decide +kernel
abbrev cX7_init : ByteArray := prog_9_method_1_code
def yX7_init : MethodName := ⟨RX7, "<init>", "()V"⟩
abbrev cX7_append : ByteArray := prog_9_method_2_code
def yX7_append : MethodName := ⟨RX7, "append", "(I)V"⟩
abbrev cX7_readInto : ByteArray := prog_9_method_3_code
def yX7_readInto : MethodName := ⟨RX7, "readInto", "(LSuitByTailors$Plan;)I"⟩
abbrev cX7_numbersBehind : ByteArray := prog_9_method_4_code
def yX7_numbersBehind : MethodName := ⟨RX7, "numbersBehind", "(I)I"⟩
abbrev cX7_readItem : ByteArray := prog_9_method_5_code
def yX7_readItem : MethodName := ⟨RX7, "readItem", "(II)I"⟩
abbrev cX7_readNumber : ByteArray := prog_9_method_6_code
def yX7_readNumber : MethodName := ⟨RX7, "readNumber", "(II)I"⟩
abbrev cX7_byteAt : ByteArray := prog_9_method_7_code
def yX7_byteAt : MethodName := ⟨RX7, "byteAt", "(I)I"⟩
def RX8 : String := "SuitByTailors"
def TX8 : u_T := fun k => match k with
  | 0 => ("SuitByTailors", "text", "LSuitByTailors$Text;", true)
  | 1 => ("SuitByTailors", "fitting", "LSuitByTailors$Fitting;", true)
  | 2 => ("SuitByTailors", "undoable", "LSuitByTailors$FittingStack;", true)
  | 3 => ("SuitByTailors", "kept", "LSuitByTailors$FittingStack;", true)
  | 4 => ("SuitByTailors", "sightings", "LSuitByTailors$Sightings;", true)
  | 5 => ("SuitByTailors", "pins", "LSuitByTailors$Pins;", true)
  | 6 => ("SuitByTailors", "orderSearch", "LSuitByTailors$OrderSearch;", true)
  | 7 => ("SuitByTailors", "boltSearch", "LSuitByTailors$BoltSearch;", true)
  | 8 => ("SuitByTailors", "lengths", "[I", true)
  | 9 => ("SuitByTailors", "toldTrue", "[I", true)
  | 10 => ("SuitByTailors", "toldByBoy", "[I", true)
  | 11 => ("SuitByTailors", "shortest", "[I", true)
  | 12 => ("SuitByTailors", "plan", "LSuitByTailors$Plan;", false)
  | _ => ("SuitByTailors", "draft", "LSuitByTailors$Plan;", false)
def tyX8 : Nat → FieldType := fun k => match k with
  | 0 => .object "SuitByTailors$Text"
  | 1 => .object "SuitByTailors$Fitting"
  | 2 => .object "SuitByTailors$FittingStack"
  | 3 => .object "SuitByTailors$FittingStack"
  | 4 => .object "SuitByTailors$Sightings"
  | 5 => .object "SuitByTailors$Pins"
  | 6 => .object "SuitByTailors$OrderSearch"
  | 7 => .object "SuitByTailors$BoltSearch"
  | 8 => .array .int
  | 9 => .array .int
  | 10 => .array .int
  | 11 => .array .int
  | 12 => .object "SuitByTailors$Plan"
  | _ => .object "SuitByTailors$Plan"
abbrev wsX80 : List Cond := u_ws RX8 TX8 14
theorem nmX8 : ∀ a, a < 14 → ∀ b, b < 14 → a ≠ b → (TX8 a).2.1 ≠ (TX8 b).2.1 := by decide +kernel
theorem tyX8_ok : ∀ k, k < 14 → parseFieldDescriptor (TX8 k).2.2.1 = some (tyX8 k) := by decide +kernel
abbrev cX8_init : ByteArray := prog_1_method_1_code
def yX8_init : MethodName := ⟨RX8, "<init>", "()V"⟩
abbrev cX8_write : ByteArray := prog_1_method_2_code
def yX8_write : MethodName := ⟨RX8, "write", "(IJ)I"⟩
abbrev cX8_wipe : ByteArray := prog_1_method_3_code
def yX8_wipe : MethodName := ⟨RX8, "wipe", "()I"⟩
abbrev cX8_fault : ByteArray := prog_1_method_4_code
def yX8_fault : MethodName := ⟨RX8, "fault", "()I"⟩
abbrev cX8_lay : ByteArray := prog_1_method_5_code
def yX8_lay : MethodName := ⟨RX8, "lay", "()I"⟩
abbrev cX8_part : ByteArray := prog_1_method_6_code
def yX8_part : MethodName := ⟨RX8, "part", "(II)I"⟩
abbrev cX8_gap : ByteArray := prog_1_method_7_code
def yX8_gap : MethodName := ⟨RX8, "gap", "(I)I"⟩
abbrev cX8_closes : ByteArray := prog_1_method_8_code
def yX8_closes : MethodName := ⟨RX8, "closes", "()I"⟩
abbrev cX8_change : ByteArray := prog_1_method_9_code
def yX8_change : MethodName := ⟨RX8, "change", "(II)I"⟩
abbrev cX8_alter : ByteArray := prog_1_method_10_code
def yX8_alter : MethodName := ⟨RX8, "alter", "(II)I"⟩
abbrev cX8_undo : ByteArray := prog_1_method_11_code
def yX8_undo : MethodName := ⟨RX8, "undo", "()I"⟩
abbrev cX8_order : ByteArray := prog_1_method_12_code
def yX8_order : MethodName := ⟨RX8, "order", "(I)I"⟩
abbrev cX8_bribes : ByteArray := prog_1_method_13_code
def yX8_bribes : MethodName := ⟨RX8, "bribes", "(I)I"⟩
abbrev cX8_closed : ByteArray := prog_1_method_14_code
def yX8_closed : MethodName := ⟨RX8, "closed", "(I)I"⟩
abbrev cX8_seen : ByteArray := prog_1_method_15_code
def yX8_seen : MethodName := ⟨RX8, "seen", "(III)I"⟩
abbrev cX8_forget : ByteArray := prog_1_method_16_code
def yX8_forget : MethodName := ⟨RX8, "forget", "()I"⟩
abbrev cX8_inch : ByteArray := prog_1_method_17_code
def yX8_inch : MethodName := ⟨RX8, "inch", "(II)I"⟩
abbrev cX8_added : ByteArray := prog_1_method_18_code
def yX8_added : MethodName := ⟨RX8, "added", "(II)I"⟩
abbrev cX8_bolts : ByteArray := prog_1_method_19_code
def yX8_bolts : MethodName := ⟨RX8, "bolts", "(I)I"⟩
abbrev cX8_coat : ByteArray := prog_1_method_20_code
def yX8_coat : MethodName := ⟨RX8, "coat", "(I)I"⟩
abbrev cX8_pin : ByteArray := prog_1_method_21_code
def yX8_pin : MethodName := ⟨RX8, "pin", "(I)I"⟩
abbrev cX8_noPins : ByteArray := prog_1_method_22_code
def yX8_noPins : MethodName := ⟨RX8, "noPins", "()I"⟩
abbrev cX8_thumb : ByteArray := prog_1_method_23_code
def yX8_thumb : MethodName := ⟨RX8, "thumb", "(I)I"⟩
abbrev cX8_year : ByteArray := prog_1_method_24_code
def yX8_year : MethodName := ⟨RX8, "year", "(III)I"⟩
abbrev cX8_keep : ByteArray := prog_1_method_25_code
def yX8_keep : MethodName := ⟨RX8, "keep", "()I"⟩
abbrev cX8_back : ByteArray := prog_1_method_26_code
def yX8_back : MethodName := ⟨RX8, "back", "()I"⟩
abbrev cX8_count : ByteArray := prog_1_method_27_code
def yX8_count : MethodName := ⟨RX8, "count", "(I)I"⟩
abbrev cX8_isLength : ByteArray := prog_1_method_28_code
def yX8_isLength : MethodName := ⟨RX8, "isLength", "(I)Z"⟩
abbrev cX8_slipNow : ByteArray := prog_1_method_29_code
def yX8_slipNow : MethodName := ⟨RX8, "slipNow", "(I)I"⟩
abbrev cX8_lengthNow : ByteArray := prog_1_method_30_code
def yX8_lengthNow : MethodName := ⟨RX8, "lengthNow", "(I)I"⟩
abbrev cX8_measureNow : ByteArray := prog_1_method_31_code
def yX8_measureNow : MethodName := ⟨RX8, "measureNow", "()V"⟩
abbrev cX8_cutByBoy : ByteArray := prog_1_method_32_code
def yX8_cutByBoy : MethodName := ⟨RX8, "cutByBoy", "(I)V"⟩
abbrev cX8_isClosedByBribing : ByteArray := prog_1_method_33_code
def yX8_isClosedByBribing : MethodName := ⟨RX8, "isClosedByBribing", "(I)Z"⟩
abbrev cX8_levelSeams : ByteArray := prog_1_method_34_code
def yX8_levelSeams : MethodName := ⟨RX8, "levelSeams", "()V"⟩
def RX9 : String := "SuitByTailorsModel"
def TX9 : u_T := fun k => match k with
  | 0 => ("SuitByTailorsModel", "length", "I", false)
  | 1 => ("SuitByTailorsModel", "text", "[B", true)
  | 2 => ("SuitByTailorsModel", "at", "I", false)
  | 3 => ("SuitByTailorsModel", "told", "[I", true)
  | 4 => ("SuitByTailorsModel", "tailors", "[I", true)
  | 5 => ("SuitByTailorsModel", "inches", "[I", true)
  | 6 => ("SuitByTailorsModel", "parts", "[I", true)
  | 7 => ("SuitByTailorsModel", "part", "[I", true)
  | 8 => ("SuitByTailorsModel", "seams", "[I", true)
  | 9 => ("SuitByTailorsModel", "seam", "[I", true)
  | 10 => ("SuitByTailorsModel", "slot", "[I", true)
  | 11 => ("SuitByTailorsModel", "kept", "I", false)
  | 12 => ("SuitByTailorsModel", "done", "I", false)
  | 13 => ("SuitByTailorsModel", "seens", "I", false)
  | 14 => ("SuitByTailorsModel", "saw", "[I", true)
  | 15 => ("SuitByTailorsModel", "pins", "I", false)
  | 16 => ("SuitByTailorsModel", "pinned", "[I", true)
  | 17 => ("SuitByTailorsModel", "row", "[I", true)
  | 18 => ("SuitByTailorsModel", "best", "[I", true)
  | 19 => ("SuitByTailorsModel", "cut", "[I", true)
  | 20 => ("SuitByTailorsModel", "sums", "[I", true)
  | 21 => ("SuitByTailorsModel", "least", "[I", true)
  | _ => ("SuitByTailorsModel", "got", "[I", true)
def tyX9 : Nat → FieldType := fun k => match k with
  | 0 => .int
  | 1 => .array .byte
  | 2 => .int
  | 3 => .array .int
  | 4 => .array .int
  | 5 => .array .int
  | 6 => .array .int
  | 7 => .array .int
  | 8 => .array .int
  | 9 => .array .int
  | 10 => .array .int
  | 11 => .int
  | 12 => .int
  | 13 => .int
  | 14 => .array .int
  | 15 => .int
  | 16 => .array .int
  | 17 => .array .int
  | 18 => .array .int
  | 19 => .array .int
  | 20 => .array .int
  | 21 => .array .int
  | _ => .array .int
abbrev wsX90 : List Cond := u_ws RX9 TX9 23
theorem nmX9 : ∀ a, a < 23 → ∀ b, b < 23 → a ≠ b → (TX9 a).2.1 ≠ (TX9 b).2.1 := by decide +kernel
theorem tyX9_ok : ∀ k, k < 23 → parseFieldDescriptor (TX9 k).2.2.1 = some (tyX9 k) := by decide +kernel
abbrev cX9_init : ByteArray := prog_11_method_1_code
def yX9_init : MethodName := ⟨RX9, "<init>", "()V"⟩
abbrev cX9_in : ByteArray := prog_11_method_2_code
def yX9_in : MethodName := ⟨RX9, "in", "(JJJ)Z"⟩
abbrev cX9_write : ByteArray := prog_11_method_3_code
def yX9_write : MethodName := ⟨RX9, "write", "(IJ)I"⟩
abbrev cX9_wipe : ByteArray := prog_11_method_4_code
def yX9_wipe : MethodName := ⟨RX9, "wipe", "()I"⟩
abbrev cX9_number : ByteArray := prog_11_method_5_code
def yX9_number : MethodName := ⟨RX9, "number", "()I"⟩
abbrev cX9_numbers : ByteArray := prog_11_method_6_code
def yX9_numbers : MethodName := ⟨RX9, "numbers", "(I)I"⟩
abbrev cX9_isItem : ByteArray := prog_11_method_7_code
def yX9_isItem : MethodName := ⟨RX9, "isItem", "()Z"⟩
abbrev cX9_isGood : ByteArray := prog_11_method_8_code
def yX9_isGood : MethodName := ⟨RX9, "isGood", "(I)Z"⟩
abbrev cX9_begins : ByteArray := prog_11_method_9_code
def yX9_begins : MethodName := ⟨RX9, "begins", "()V"⟩
abbrev cX9_takes : ByteArray := prog_11_method_10_code
def yX9_takes : MethodName := ⟨RX9, "takes", "()V"⟩
abbrev cX9_fault : ByteArray := prog_11_method_11_code
def yX9_fault : MethodName := ⟨RX9, "fault", "()I"⟩
abbrev cX9_lay : ByteArray := prog_11_method_12_code
def yX9_lay : MethodName := ⟨RX9, "lay", "()I"⟩
abbrev cX9_isPart : ByteArray := prog_11_method_13_code
def yX9_isPart : MethodName := ⟨RX9, "isPart", "(I)Z"⟩
abbrev cX9_isTailor : ByteArray := prog_11_method_14_code
def yX9_isTailor : MethodName := ⟨RX9, "isTailor", "(I)Z"⟩
abbrev cX9_slip : ByteArray := prog_11_method_15_code
def yX9_slip : MethodName := ⟨RX9, "slip", "(III)I"⟩
abbrev cX9_cutOf : ByteArray := prog_11_method_16_code
def yX9_cutOf : MethodName := ⟨RX9, "cutOf", "(II)I"⟩
abbrev cX9_placeOf : ByteArray := prog_11_method_17_code
def yX9_placeOf : MethodName := ⟨RX9, "placeOf", "(I)I"⟩
abbrev cX9_slipNow : ByteArray := prog_11_method_18_code
def yX9_slipNow : MethodName := ⟨RX9, "slipNow", "(I)I"⟩
abbrev cX9_lengths : ByteArray := prog_11_method_19_code
def yX9_lengths : MethodName := ⟨RX9, "lengths", "()V"⟩
abbrev cX9_gapOf : ByteArray := prog_11_method_20_code
def yX9_gapOf : MethodName := ⟨RX9, "gapOf", "(I)I"⟩
abbrev cX9_gaps : ByteArray := prog_11_method_21_code
def yX9_gaps : MethodName := ⟨RX9, "gaps", "()I"⟩
abbrev cX9_isClosed : ByteArray := prog_11_method_22_code
def yX9_isClosed : MethodName := ⟨RX9, "isClosed", "()Z"⟩
abbrev cX9_part : ByteArray := prog_11_method_23_code
def yX9_part : MethodName := ⟨RX9, "part", "(II)I"⟩
abbrev cX9_gap : ByteArray := prog_11_method_24_code
def yX9_gap : MethodName := ⟨RX9, "gap", "(I)I"⟩
abbrev cX9_closes : ByteArray := prog_11_method_25_code
def yX9_closes : MethodName := ⟨RX9, "closes", "()I"⟩
abbrev cX9_copies : ByteArray := prog_11_method_26_code
def yX9_copies : MethodName := ⟨RX9, "copies", "(II)V"⟩
abbrev cX9_known : ByteArray := prog_11_method_27_code
def yX9_known : MethodName := ⟨RX9, "known", "()V"⟩
abbrev cX9_change : ByteArray := prog_11_method_28_code
def yX9_change : MethodName := ⟨RX9, "change", "(II)I"⟩
abbrev cX9_alter : ByteArray := prog_11_method_29_code
def yX9_alter : MethodName := ⟨RX9, "alter", "(II)I"⟩
abbrev cX9_undo : ByteArray := prog_11_method_30_code
def yX9_undo : MethodName := ⟨RX9, "undo", "()I"⟩
abbrev cX9_nextOrder : ByteArray := prog_11_method_31_code
def yX9_nextOrder : MethodName := ⟨RX9, "nextOrder", "()Z"⟩
abbrev cX9_order : ByteArray := prog_11_method_32_code
def yX9_order : MethodName := ⟨RX9, "order", "(I)I"⟩
abbrev cX9_bribes : ByteArray := prog_11_method_33_code
def yX9_bribes : MethodName := ⟨RX9, "bribes", "(I)I"⟩
abbrev cX9_closed : ByteArray := prog_11_method_34_code
def yX9_closed : MethodName := ⟨RX9, "closed", "(I)I"⟩
abbrev cX9_seen : ByteArray := prog_11_method_35_code
def yX9_seen : MethodName := ⟨RX9, "seen", "(III)I"⟩
abbrev cX9_forget : ByteArray := prog_11_method_36_code
def yX9_forget : MethodName := ⟨RX9, "forget", "()I"⟩
abbrev cX9_inch : ByteArray := prog_11_method_37_code
def yX9_inch : MethodName := ⟨RX9, "inch", "(II)I"⟩
abbrev cX9_added : ByteArray := prog_11_method_38_code
def yX9_added : MethodName := ⟨RX9, "added", "(II)I"⟩
abbrev cX9_nextBolts : ByteArray := prog_11_method_39_code
def yX9_nextBolts : MethodName := ⟨RX9, "nextBolts", "()Z"⟩
abbrev cX9_many : ByteArray := prog_11_method_40_code
def yX9_many : MethodName := ⟨RX9, "many", "()I"⟩
abbrev cX9_bolts : ByteArray := prog_11_method_41_code
def yX9_bolts : MethodName := ⟨RX9, "bolts", "(I)I"⟩
abbrev cX9_coat : ByteArray := prog_11_method_42_code
def yX9_coat : MethodName := ⟨RX9, "coat", "(I)I"⟩
abbrev cX9_tailorOf : ByteArray := prog_11_method_43_code
def yX9_tailorOf : MethodName := ⟨RX9, "tailorOf", "(II)I"⟩
abbrev cX9_pin : ByteArray := prog_11_method_44_code
def yX9_pin : MethodName := ⟨RX9, "pin", "(I)I"⟩
abbrev cX9_noPins : ByteArray := prog_11_method_45_code
def yX9_noPins : MethodName := ⟨RX9, "noPins", "()I"⟩
abbrev cX9_thumb : ByteArray := prog_11_method_46_code
def yX9_thumb : MethodName := ⟨RX9, "thumb", "(I)I"⟩
abbrev cX9_year : ByteArray := prog_11_method_47_code
def yX9_year : MethodName := ⟨RX9, "year", "(III)I"⟩
abbrev cX9_keep : ByteArray := prog_11_method_48_code
def yX9_keep : MethodName := ⟨RX9, "keep", "()I"⟩
abbrev cX9_back : ByteArray := prog_11_method_49_code
def yX9_back : MethodName := ⟨RX9, "back", "()I"⟩
abbrev cX9_count : ByteArray := prog_11_method_50_code
def yX9_count : MethodName := ⟨RX9, "count", "(I)I"⟩
def RL : String := "SuitByTailorsLaw"
abbrev cL_law : ByteArray := code
def yL_law : MethodName := ⟨RL, "law", "([I)Z"⟩
abbrev vwCl : List vw_C := [(RX0, TX0, 3), (RX1, TX1, 2), (RX2, TX2, 5), (RX3, TX3, 6), (RX4, TX4, 3), (RX5, TX5, 12), (RX6, TX6, 4), (RX7, TX7, 3), (RX8, TX8, 14), (RX9, TX9, 23)]
/-! one list of words for all methods -/
def wG : List Cond := lw_tbl.filter goodWord
theorem wG_of {w : Cond} (h : w ∈ lw_tbl) (g : goodWord w = true) : w ∈ wG := List.mem_filter.mpr ⟨h, g⟩
theorem wG_in {w : Cond} (h : w ∈ wG) : w ∈ lw_tbl := (List.mem_filter.mp h).1
theorem wG_good {w : Cond} (h : w ∈ wG) : (w.onTables && w.keeps) = true ∨ ∃ ty, w = .arrayClass ty := good_of_word (List.mem_filter.mp h).2
theorem z_gV {Ts : List Cond} (hT : ∀ w ∈ wG, w ∈ Ts) {own C : String} {idx n : Nat} {y : MethodName} {cc : ByteArray} {r : Option FieldType} (h1 : Cond.methodLink own idx y ∈ wG) (h2 : Cond.instanceMethod y ∈ wG) (h3 : Cond.selects C y y ∈ wG) (h4 : Cond.initialized C ∈ wG) (h5 : Cond.code y cc n r ∈ wG) : GoodIn Ts (wsV own idx C y (Cond.code y cc n r :: wG)) := by
  intro w hw
  have hw2 : w ∈ wG := by
    rcases List.mem_append.mp hw with h | h
    · rcases List.mem_cons.mp h with h | h
      · rw [h]; exact h1
      rcases List.mem_cons.mp h with h | h
      · rw [h]; exact h2
      rcases List.mem_cons.mp h with h | h
      · rw [h]; exact h3
      rcases List.mem_cons.mp h with h | h
      · rw [h]; exact h4
      exact absurd h List.not_mem_nil
    · rcases List.mem_cons.mp h with h | h
      · rw [h]; exact h5
      · exact h
  exact ⟨hT w hw2, wG_good hw2⟩
theorem z_gS {Ts : List Cond} (hT : ∀ w ∈ wG, w ∈ Ts) {own : String} {idx n : Nat} {y : MethodName} {cc : ByteArray} {r : Option FieldType} (h1 : Cond.methodLink own idx y ∈ wG) (h2 : Cond.static y ∈ wG) (h4 : Cond.initialized y.cls ∈ wG) (h5 : Cond.code y cc n r ∈ wG) : GoodIn Ts (va_wsS own idx y (Cond.code y cc n r :: wG)) := by
  intro w hw
  have hw2 : w ∈ wG := by
    rcases List.mem_append.mp hw with h | h
    · rcases List.mem_cons.mp h with h | h
      · rw [h]; exact h1
      rcases List.mem_cons.mp h with h | h
      · rw [h]; exact h2
      rcases List.mem_cons.mp h with h | h
      · rw [h]; exact h4
      exact absurd h List.not_mem_nil
    · rcases List.mem_cons.mp h with h | h
      · rw [h]; exact h5
      · exact h
  exact ⟨hT w hw2, wG_good hw2⟩
theorem z_gI {Ts : List Cond} (hT : ∀ w ∈ wG, w ∈ Ts) {n : Nat} {y : MethodName} {cc : ByteArray} {r : Option FieldType} (h5 : Cond.code y cc n r ∈ wG) : GoodIn Ts (Cond.code y cc n r :: wG) := by
  intro w hw
  have hw2 : w ∈ wG := by
    rcases List.mem_cons.mp hw with h | h
    · rw [h]; exact h5
    · exact h
  exact ⟨hT w hw2, wG_good hw2⟩
end
section
/-! what an object with all that it holds contains: its place (a field, in the order of the slots, deep), then an index; a plain number stands at index 0 -/
abbrev zMm : Type := Nat → Nat → Int32
def zs (X : zMm) (j : Nat) (g : Nat → Int32) : zMm := fun i => cond (Nat.beq i j) g (X i)
def zp (X : zMm) (b n : Nat) (P : zMm) : zMm := fun i => cond (Nat.ble b i && Nat.blt i (b + n)) (P (i - b)) (X i)
/-! programs as functions: none where the machine would throw -/
def zl {α : Type} (n : Nat) (f : Nat → Int32) (i : Int32) (k : Int32 → Option α) : Option α := if i < 0 ∨ n ≤ i.toNatClampNeg then none else k (f i.toNatClampNeg)
def zw {α : Type} (n : Nat) (X : zMm) (j : Nat) (i v : Int32) (k : zMm → Option α) : Option α := if i < 0 ∨ n ≤ i.toNatClampNeg then none else k (zs X j (upd (X j) i.toNatClampNeg v))
def zv {β α : Type} (x : β) (k : β → Option α) : Option α := k x
def zd {α : Type} (y : Int32) (k : Option α) : Option α := if y = 0 then none else k
def zdL {α : Type} (y : Int64) (k : Option α) : Option α := if y = 0 then none else k
def zo (v : Int32) {α : Type} (k : Option α) : Option α := if v &&& 1 = v then k else none
def zb1 {α β : Type} (o : Option β) (k : β → Option α) : Option α := match o with
  | none => none
  | some a => k a
def zb2 {α β γ : Type} (o : Option (β × γ)) (k : β → γ → Option α) : Option α := match o with
  | none => none
  | some (a, b) => k a b
def zb3 {α β γ δ : Type} (o : Option (β × γ × δ)) (k : β → γ → δ → Option α) : Option α := match o with
  | none => none
  | some (a, b, c) => k a b c
def zb4 {α β γ δ ε : Type} (o : Option (β × γ × δ × ε)) (k : β → γ → δ → ε → Option α) : Option α := match o with
  | none => none
  | some (a, b, c, d) => k a b c d
def zb5 {α β γ δ ε ζ : Type} (o : Option (β × γ × δ × ε × ζ)) (k : β → γ → δ → ε → ζ → Option α) : Option α := match o with
  | none => none
  | some (a, b, c, d, e) => k a b c d e
theorem zl_some {α : Type} {n : Nat} {f : Nat → Int32} {i : Int32} {k : Int32 → Option α} {r : α} (h : zl n f i k = some r) : vp_in i n ∧ ∃ v, v = f i.toNatClampNeg ∧ k v = some r := by
  unfold zl at h
  split at h
  · cases h
  · next q => exact ⟨q, _, rfl, h⟩
theorem zw_some {α : Type} {n : Nat} {X : zMm} {j : Nat} {i v : Int32} {k : zMm → Option α} {r : α} (h : zw n X j i v k = some r) : vp_in i n ∧ ∃ Y, Y = zs X j (upd (X j) i.toNatClampNeg v) ∧ k Y = some r := by
  unfold zw at h
  split at h
  · cases h
  · next q => exact ⟨q, _, rfl, h⟩
theorem zv_some {β α : Type} {x : β} {k : β → Option α} {r : α} (h : zv x k = some r) : ∃ y, y = x ∧ k y = some r := ⟨x, rfl, h⟩
theorem zd_some {α : Type} {y : Int32} {k : Option α} {r : α} (h : zd y k = some r) : ¬ y = 0 ∧ k = some r := by
  unfold zd at h
  split at h
  · cases h
  · next q => exact ⟨q, h⟩
theorem zdL_some {α : Type} {y : Int64} {k : Option α} {r : α} (h : zdL y k = some r) : ¬ y = 0 ∧ k = some r := by
  unfold zdL at h
  split at h
  · cases h
  · next q => exact ⟨q, h⟩
theorem zo_some {v : Int32} {α : Type} {k : Option α} {r : α} (h : zo v k = some r) : narrow .boolean (.int v) = .int v ∧ k = some r := by
  unfold zo at h
  split at h
  · next q => exact ⟨by show Value.int (v &&& 1) = _; rw [q], h⟩
  · cases h
theorem zb1_some {α β : Type} {o : Option β} {k : β → Option α} {r : α} (h : zb1 o k = some r) : ∃ a, o = some a ∧ k a = some r := by
  cases o with
  | none => cases h
  | some a => exact ⟨a, rfl, h⟩
theorem zb2_some {α β γ : Type} {o : Option (β × γ)} {k : β → γ → Option α} {r : α} (h : zb2 o k = some r) : ∃ a b, o = some (a, b) ∧ k a b = some r := by
  cases o with
  | none => cases h
  | some a => exact ⟨a.1, a.2, rfl, h⟩
theorem zb3_some {α β γ δ : Type} {o : Option (β × γ × δ)} {k : β → γ → δ → Option α} {r : α} (h : zb3 o k = some r) : ∃ a b c, o = some (a, b, c) ∧ k a b c = some r := by
  cases o with
  | none => cases h
  | some a => exact ⟨a.1, a.2.1, a.2.2, rfl, h⟩
theorem zb4_some {α β γ δ ε : Type} {o : Option (β × γ × δ × ε)} {k : β → γ → δ → ε → Option α} {r : α} (h : zb4 o k = some r) : ∃ a b c d, o = some (a, b, c, d) ∧ k a b c d = some r := by
  cases o with
  | none => cases h
  | some a => exact ⟨a.1, a.2.1, a.2.2.1, a.2.2.2, rfl, h⟩
theorem zb5_some {α β γ δ ε ζ : Type} {o : Option (β × γ × δ × ε × ζ)} {k : β → γ → δ → ε → ζ → Option α} {r : α} (h : zb5 o k = some r) : ∃ a b c d e, o = some (a, b, c, d, e) ∧ k a b c d e = some r := by
  cases o with
  | none => cases h
  | some a => exact ⟨a.1, a.2.1, a.2.2.1, a.2.2.2.1, a.2.2.2.2, rfl, h⟩
theorem zit {α : Type} {c : Prop} {_i : Decidable c} {a b : Option α} {r : α} (h : c) (hf : (if c then a else b) = some r) : a = some r := by
  rw [if_pos h] at hf
  exact hf
theorem zif {α : Type} {c : Prop} {_i : Decidable c} {a b : Option α} {r : α} (h : ¬ c) (hf : (if c then a else b) = some r) : b = some r := by
  rw [if_neg h] at hf
  exact hf
theorem zsw_out {x : Int32} {lo hi : Nat} (hb : hi < 2 ^ 31) (h : ∀ k, lo ≤ k → k ≤ hi → ¬ x = nI k) : x.toInt < (lo : Int) ∨ (hi : Int) < x.toInt := by
  rcases Int.lt_or_le x.toInt lo with q | q
  · exact Or.inl q
  · rcases Int.lt_or_le (hi : Int) x.toInt with q2 | q2
    · exact Or.inr q2
    · exfalso
      obtain ⟨k, hk⟩ := Int.eq_ofNat_of_zero_le (show 0 ≤ x.toInt by omega)
      refine h k (by omega) (by omega) ?_
      have h2 : (nI k).toInt = (k : Int) := nI_toInt (by omega)
      exact Int32.toInt_inj.mp (by rw [h2, hk])
/-! a method's contract: with the cells ws at its start it answers r and leaves the cells w1 -/
def zPc (D : va_G) (cI cB : ClassId) (av : List Value) (ws : va_W) (sz : Nat) : Array Value → State → Prop := va_Pc av (fun U => U.heap.size = sz ∧ va_P D vwCl ws U.heap ∧ va_K D vwCl [(cI, .int), (cB, .byte)] U ∧ va_D (fun _ => True) ws)
def zQi (D : va_G) (cI cB : ClassId) (r : Int32) (w1 : va_W) (A : Nat → Prop) : Array Value → State → Outcome → State → Prop := va_Qi (fun (r2 : Int32) (_ : Unit) => r2 = r) (fun _ t => va_P D vwCl w1 t.heap ∧ va_K D vwCl [(cI, .int), (cB, .byte)] t ∧ va_D A w1) A
def zQv (D : va_G) (cI cB : ClassId) (w1 : va_W) (A : Nat → Prop) : Array Value → State → Outcome → State → Prop := va_Qv (fun (_ : Unit) => True) (fun _ t => va_P D vwCl w1 t.heap ∧ va_K D vwCl [(cI, .int), (cB, .byte)] t ∧ va_D A w1) A
def zMi (l : Launch) (y : MethodName) (wy : List Cond) (rm : Room) (D : va_G) (cI cB : ClassId) (av : List Value) (ws : va_W) (r : Int32) (w1 : va_W) : Prop := ∀ sz : Nat, Met l y wy rm (zPc D cI cB av ws sz) (zQi D cI cB r w1 (va_A ws sz)) 0 0 (va_A ws sz)
def zMv (l : Launch) (y : MethodName) (wy : List Cond) (rm : Room) (D : va_G) (cI cB : ClassId) (av : List Value) (ws w1 : va_W) : Prop := ∀ sz : Nat, Met l y wy rm (zPc D cI cB av ws sz) (zQv D cI cB w1 (va_A ws sz)) 0 0 (va_A ws sz)
theorem zPc_blind {D : va_G} {cI cB : ClassId} {av : List Value} {ws : va_W} {sz : Nat} : FrameBlind (zPc D cI cB av ws sz) := by
  intro a U g mk q
  obtain ⟨q0, q1, qP, qK, qD⟩ := q
  exact ⟨q0, q1, qP, va_K.moved (u := U) (U := U.calling g mk a) (Vm.Alike.refl U.vm) qK, qD⟩
theorem zofI {l : Launch} {y : MethodName} {wy wy2 : List Cond} {rm : Room} {D : va_G} {cI cB : ClassId} {av : List Value} {ws w1 : va_W} {r : Int32} {cc : ByteArray} {maxL : Nat} {ret : Option FieldType} (hy : plainName y.cls = true) (hw : wy = Cond.code y cc maxL ret :: wy2) (hlen : (lg_sl av).length ≤ maxL)
    (body : ∀ (p : Program) (e : Env) (s : State) (m : MethodId) (below : List Frame) (meth : Method) (c : Code) (A : Nat → Prop) (ls : Array Slot), p.tables.exec = Jvm.exec → c.code = cc → c.maxLocals = maxL → meth.sig.returnType = ret → s.vm.findClass y.cls = some m.cls → (∀ w ∈ wy, w.before av.toArray s = true) → meth.locks = false → va_K D vwCl [(cI, .int), (cB, .byte)] s → va_P D vwCl ws s.heap → va_D A ws → va_S A s.heap s.heap [] → (∀ q : Nat, s.heap.size ≤ q → A q) → lv_has ls maxL (lv_args 0 av) → W p l e rm s m av.toArray below meth c s.heap [] 0 0 (MQ below (zQi D cI cB r w1 A) av.toArray s 0 0 A) (F0 m 0 ls [])) : zMi l y wy rm D cI cB av ws r w1 := by
  intro sz
  refine Met.ofW (cc := cc) (maxL := maxL) (ret := ret) hy hw ?_
  intro p e s m args below meth c s₁ B hml hv
  obtain ⟨rfl, hsz, hP, hK, hD0⟩ := hv
  have hts := atoms_spec (ws := wy) B.pre
  subst hsz
  have hD := hD0.self (sz := s.heap.size)
  have hl := lv_entry av (n := maxL) hlen
  rw [lg_entry_eq]
  exact body p e s m below meth c (va_A ws s.heap.size) _ B.exec B.bytes hml B.returns (findClass_of_methodNamed B.named) hts B.notSynchronized hK hP hD va_S.rf (fun q h => Or.inr h) hl
theorem zofV {l : Launch} {y : MethodName} {wy wy2 : List Cond} {rm : Room} {D : va_G} {cI cB : ClassId} {av : List Value} {ws w1 : va_W} {cc : ByteArray} {maxL : Nat} {ret : Option FieldType} (hy : plainName y.cls = true) (hw : wy = Cond.code y cc maxL ret :: wy2) (hlen : (lg_sl av).length ≤ maxL)
    (body : ∀ (p : Program) (e : Env) (s : State) (m : MethodId) (below : List Frame) (meth : Method) (c : Code) (A : Nat → Prop) (ls : Array Slot), p.tables.exec = Jvm.exec → c.code = cc → c.maxLocals = maxL → meth.sig.returnType = ret → s.vm.findClass y.cls = some m.cls → (∀ w ∈ wy, w.before av.toArray s = true) → meth.locks = false → va_K D vwCl [(cI, .int), (cB, .byte)] s → va_P D vwCl ws s.heap → va_D A ws → va_S A s.heap s.heap [] → (∀ q : Nat, s.heap.size ≤ q → A q) → lv_has ls maxL (lv_args 0 av) → W p l e rm s m av.toArray below meth c s.heap [] 0 0 (MQ below (zQv D cI cB w1 A) av.toArray s 0 0 A) (F0 m 0 ls [])) : zMv l y wy rm D cI cB av ws w1 := by
  intro sz
  refine Met.ofW (cc := cc) (maxL := maxL) (ret := ret) hy hw ?_
  intro p e s m args below meth c s₁ B hml hv
  obtain ⟨rfl, hsz, hP, hK, hD0⟩ := hv
  have hts := atoms_spec (ws := wy) B.pre
  subst hsz
  have hD := hD0.self (sz := s.heap.size)
  have hl := lv_entry av (n := maxL) hlen
  rw [lg_entry_eq]
  exact body p e s m below meth c (va_A ws s.heap.size) _ B.exec B.bytes hml B.returns (findClass_of_methodNamed B.named) hts B.notSynchronized hK hP hD va_S.rf (fun q h => Or.inr h) hl
/-- a place of a method's walk: whoever has the cells and the locals there comes to the end -/
def zAt (p : Program) (l : Launch) (e : Env) (R : Room) (s : State) (m : MethodId) (args : Array Value) (below : List Frame) (meth : Method) (c : Code) (Q : State → Prop) (A : Nat → Prop) (D : va_G) (nL : Nat) (ws : va_W) (lv : List (Nat × Value)) (pc : Nat) (st : List Value) : Prop := ∀ (H : Heap) (locs : List Loc) (ls : Array Slot), va_P D vwCl ws H → va_D A ws → va_S A s.heap H locs → lv_has ls nL lv → W p l e R s m args below meth c H locs 0 0 Q (F0 m pc ls st)
theorem z_fm {α : Type} {w : List α} : ∀ {is : List Nat} {w2 : List α}, is.map (fun i => w[i]?) = w2.map some → is.filterMap (fun i => w[i]?) = w2
  | [], [], _ => rfl
  | [], _ :: _, h => by cases h
  | _ :: _, [], h => by cases h
  | i :: is, a :: w2, h => by
    simp only [List.map_cons, List.cons.injEq] at h
    rw [List.filterMap_cons, h.1]
    simp only [z_fm (w2 := w2) h.2]
section ZR
variable {p : Program} {l : Launch} {e : Env} {R : Room} {s : State} {m : MethodId} {args : Array Value} {below : List Frame} {meth : Method} {c : Code} {H : Heap} {locs : List Loc} {cells slots : Nat} {Q : State → Prop}
variable {pc : Nat} {ls : Array Slot} {rest : List Value} {A : Nat → Prop} {D : va_G} {cI cB : ClassId} {w1 : va_W} {cc : ByteArray}
theorem zt {x y : Int32} (h : y = x) (k : W p l e R s m args below meth c H locs cells slots Q (F0 m pc ls (.int y :: rest))) : W p l e R s m args below meth c H locs cells slots Q (F0 m pc ls (.int x :: rest)) := h ▸ k
theorem ztL {x y : Int64} (h : y = x) (k : W p l e R s m args below meth c H locs cells slots Q (F0 m pc ls (.long y :: rest))) : W p l e R s m args below meth c H locs cells slots Q (F0 m pc ls (.long x :: rest)) := h ▸ k
theorem zretI {r : Int32} (hx : p.tables.exec = Jvm.exec) (hb : c.code = cc) (hr : meth.sig.returnType = some .int) (hlocks : meth.locks = false) (hK : va_K D vwCl [(cI, .int), (cB, .byte)] s) (hP : va_P D vwCl w1 H) (hD : va_D A w1) (hS : va_S A s.heap H locs) (hdg : decode cc pc = .ok (.ireturn, 1)) : W p l e R s m args below meth c H locs 0 0 (MQ below (zQi D cI cB r w1 A) args s 0 0 A) (F0 m pc ls [.int r]) :=
  W.iret hx hb hr (fun t ht hW => ⟨⟨r, (), rfl, rfl, by rw [ht]; exact hP, va_K.moved hW.alike hK, hD⟩, hS.F ht⟩) hS.2.2 hdg
theorem zretB {r : Int32} (hx : p.tables.exec = Jvm.exec) (hb : c.code = cc) (hr : meth.sig.returnType = some .boolean) (hlocks : meth.locks = false) (hn : narrow .boolean (.int r) = .int r) (hK : va_K D vwCl [(cI, .int), (cB, .byte)] s) (hP : va_P D vwCl w1 H) (hD : va_D A w1) (hS : va_S A s.heap H locs) (hdg : decode cc pc = .ok (.ireturn, 1)) : W p l e R s m args below meth c H locs 0 0 (MQ below (zQi D cI cB r w1 A) args s 0 0 A) (F0 m pc ls [.int r]) :=
  W.zret hx hb hr hn (fun t ht hW => ⟨⟨r, (), rfl, rfl, by rw [ht]; exact hP, va_K.moved hW.alike hK, hD⟩, hS.F ht⟩) hS.2.2 hdg
theorem zretV (hx : p.tables.exec = Jvm.exec) (hb : c.code = cc) (hr : meth.sig.returnType = none) (hlocks : meth.locks = false) (hK : va_K D vwCl [(cI, .int), (cB, .byte)] s) (hP : va_P D vwCl w1 H) (hD : va_D A w1) (hS : va_S A s.heap H locs) (hdg : decode cc pc = .ok (.return_, 1)) : W p l e R s m args below meth c H locs 0 0 (MQ below (zQv D cI cB w1 A) args s 0 0 A) (F0 m pc ls []) :=
  W.vret hx hb hr (fun t ht hW => ⟨⟨(), rfl, trivial, by rw [ht]; exact hP, va_K.moved hW.alike hK, hD⟩, hS.F ht⟩) hS.2.2 hdg
variable {H0 : Heap} {ws wc ws2 : va_W} {y : MethodName} {bytes : ByteArray} {maxL nL n index ci : Nat} {ret : Option FieldType} {wy Ts : List Cond} {rm : Room} {own C : String} {b : Addr} {As : List Value} {r : Int32} {q0 : vw_C} {fs : List Value}
/-- the caller's cells behind a call: those of the callee at their places, the others as they were -/
theorem z_join {H1 : Heap} (hP : va_P D vwCl ws H) (hD : va_D A ws) (hS : va_S A H0 H locs) (hA : ∀ q : Nat, H0.size ≤ q → A q) (isC isR : List Nat) (hC : isC.map (fun i => ws[i]?) = wc.map some) (h2C : isC.map (fun i => ws2[i]?) = w1.map some) (h2R : isR.map (fun i => ws2[i]?) = isR.map (fun i => ws[i]?)) (hdis : isR.all (fun i => !(isC.contains i)) = true) (hcov : (List.range ws2.length).all (fun i => isC.contains i || isR.contains i) = true)
    (hk : ∀ q : Nat, q < H.size → ¬ va_A wc H.size q → H1[q]? = H[q]?) (hP1 : va_P D vwCl w1 H1) (hD1 : va_D (va_A wc H.size) w1) : va_P D vwCl ws2 H1 ∧ va_D A ws2 := by
  have hFc := va_free (wc := wc) hD hS hA isC hC
  have hdis2 : ∀ i ∈ isR, i ∉ isC := by
    intro i hi hc
    have h1 := List.all_eq_true.mp hdis i hi
    simp [hc] at h1
  have at' : ∀ {wx w : va_W}, isC.map (fun i => wx[i]?) = w.map some → ∀ (k : Nat) (q : Nat × va_E), w[k]? = some q → ∃ i, isC[k]? = some i ∧ wx[i]? = some q := by
    intro wx w hs k q hq
    have h1 : (isC.map (fun i => wx[i]?))[k]? = some (some q) := by rw [hs, List.getElem?_map, hq]; rfl
    rw [List.getElem?_map] at h1
    cases hi : isC[k]? with
    | none => rw [hi] at h1; cases h1
    | some i => rw [hi] at h1; exact ⟨i, rfl, Option.some.inj h1⟩
  have atC : ∀ (k : Nat) (q : Nat × va_E), k ∈ isC → ws2[k]? = some q → ∃ a : Nat, isC[a]? = some k ∧ w1[a]? = some q := by
    intro k q hk1 hq
    obtain ⟨a, ha⟩ := List.getElem?_of_mem hk1
    refine ⟨a, ha, ?_⟩
    have h1 : (isC.map (fun i => ws2[i]?))[a]? = some (some q) := by rw [List.getElem?_map, ha]; show some (ws2[k]?) = _; rw [hq]
    rw [h2C, List.getElem?_map] at h1
    cases hi : w1[a]? with
    | none => rw [hi] at h1; cases h1
    | some i => rw [hi] at h1; exact h1 |> fun h => by simpa using h
  have atR : ∀ k ∈ isR, ws2[k]? = ws[k]? := List.map_inj_left.mp h2R
  have apart : ∀ (k : Nat) (q : Nat × va_E), k ∈ isR → ws[k]? = some q → q.1 < H.size ∧ ¬ va_A wc H.size q.1 := by
    intro k q hkR hq
    have hl := (hP k q hq).lt
    refine ⟨hl, fun h => ?_⟩
    rcases h with ⟨k2, e, h⟩ | h
    · obtain ⟨j, h3, h4⟩ := at' hC k2 (q.1, e) h
      have hij := hD.1 k j q (q.1, e) hq h4 rfl
      subst hij
      exact hdis2 k hkR (List.mem_of_getElem? h3)
    · omega
  have cov : ∀ (k : Nat) (q : Nat × va_E), ws2[k]? = some q → k ∈ isC ∨ k ∈ isR := by
    intro k q hq
    have h1 := List.all_eq_true.mp hcov k (List.mem_range.mpr (List.getElem?_eq_some_iff.mp hq).1)
    simpa using h1
  refine ⟨fun k q hq => ?_, fun i j x y hi hj hxy => ?_, fun k q hq => ?_⟩
  · rcases cov k q hq with h | h
    · obtain ⟨a, -, h2⟩ := atC k q h hq
      exact hP1 a q h2
    · rw [atR k h] at hq
      obtain ⟨g1, g2⟩ := apart k q h hq
      exact (hP k q hq).kept (hk q.1 g1 g2)
  · rcases cov i x hi with h | h <;> rcases cov j y hj with h2 | h2
    · obtain ⟨a, e1, e2⟩ := atC i x h hi
      obtain ⟨b, e3, e4⟩ := atC j y h2 hj
      have := hD1.1 a b x y e2 e4 hxy
      subst this
      exact Option.some.inj (e1.symm.trans e3)
    · obtain ⟨a, e1, e2⟩ := atC i x h hi
      rw [atR j h2] at hj
      exact absurd (hD1.2 a x e2) (by rw [hxy]; exact (apart j y h2 hj).2)
    · obtain ⟨b, e3, e4⟩ := atC j y h2 hj
      rw [atR i h] at hi
      exact absurd (hD1.2 b y e4) (by rw [← hxy]; exact (apart i x h hi).2)
    · rw [atR i h] at hi
      rw [atR j h2] at hj
      exact hD.1 i j x y hi hj hxy
  · rcases cov k q hq with h | h
    · obtain ⟨a, -, h2⟩ := atC k q h hq
      exact hFc _ (hD1.2 a q h2)
    · rw [atR k h] at hq
      exact hD.2 k q hq
theorem zcallVi (S : CallFix p m c cc nL s args Ts own) (hM : zMi l y wy rm D cI cB (.ref b :: As) wc r w1) (cw : CallW R s args own C index y bytes maxL ret wy rm 0 0 n) (hK : va_K D vwCl [(cI, .int), (cB, .byte)] s) (hP : va_P D vwCl ws H) (hD : va_D A ws) (hS : va_S A H0 H locs) (hA : ∀ q : Nat, H0.size ≤ q → A q) (ci0 : Nat) (hrc : wc[0]? = some (b, .inr (ci0, fs))) (hcl : vwCl[ci0]? = some q0) (hq0 : q0.1 = C) (isC isR : List Nat) (hC : isC.map (fun i => ws[i]?) = wc.map some) (hnC : va_nd isC = true) (h2C : isC.map (fun i => ws2[i]?) = w1.map some) (h2R : isR.map (fun i => ws2[i]?) = isR.map (fun i => ws[i]?)) (hdis : isR.all (fun i => !(isC.contains i)) = true) (hcov : (List.range ws2.length).all (fun i => isC.contains i || isR.contains i) = true)
    (hAs : As.length = n) (hls : ls.size = nL) (hroom : (rest.map fun v => v.category).sum ≤ 8) (hdg : decode cc pc = .ok (.invokevirtual index, 3)) (hcs : cells ≤ R.cells ∧ slots ≤ R.slots) {st : List Value} (hst : st = As.reverse ++ .ref b :: rest)
    (kk : ∀ (H1 : Heap) (locs1 : List Loc), va_P D vwCl ws2 H1 → va_D A ws2 → va_S A H0 H1 locs1 → W p l e R s m args below meth c H1 locs1 cells slots Q (F0 m (pc + 3) ls (.int r :: rest))) : W p l e R s m args below meth c H locs cells slots Q (F0 m pc ls st) := by
  subst hst
  subst hq0
  have hPc := hP.sub isC (z_fm (w2 := wc) hC)
  have hDc := hD.sub isC hnC hC
  have hFc := va_free (wc := wc) hD hS hA isC hC
  refine va_calli (va_runV (As := As) (rest := rest) S (hM H.size) cw ⟨zPc_blind, va_recv hK hPc hcl hrc, fun U hU hW => ⟨rfl, by rw [hU], by rw [hU]; exact hPc, va_K.moved hW.alike hK, hDc.weaken (fun _ _ _ _ => trivial)⟩⟩ rfl hAs hls rfl (lv_room hroom) hdg hcs) hS (fun q _ h => hFc q h) hFc (fun r2 u t H1 locs2 ht hvm hw hB hz1 hk1 hS2 => ?_)
  obtain ⟨hP1, hK1, hD1⟩ := hB
  rw [ht] at hP1
  subst hw
  obtain ⟨a, b⟩ := z_join hP hD hS hA isC isR hC h2C h2R hdis hcov hk1 hP1 hD1
  exact kk H1 locs2 a b hS2
theorem zcallVv (S : CallFix p m c cc nL s args Ts own) (hM : zMv l y wy rm D cI cB (.ref b :: As) wc w1) (cw : CallW R s args own C index y bytes maxL ret wy rm 0 0 n) (hK : va_K D vwCl [(cI, .int), (cB, .byte)] s) (hP : va_P D vwCl ws H) (hD : va_D A ws) (hS : va_S A H0 H locs) (hA : ∀ q : Nat, H0.size ≤ q → A q) (ci0 : Nat) (hrc : wc[0]? = some (b, .inr (ci0, fs))) (hcl : vwCl[ci0]? = some q0) (hq0 : q0.1 = C) (isC isR : List Nat) (hC : isC.map (fun i => ws[i]?) = wc.map some) (hnC : va_nd isC = true) (h2C : isC.map (fun i => ws2[i]?) = w1.map some) (h2R : isR.map (fun i => ws2[i]?) = isR.map (fun i => ws[i]?)) (hdis : isR.all (fun i => !(isC.contains i)) = true) (hcov : (List.range ws2.length).all (fun i => isC.contains i || isR.contains i) = true)
    (hAs : As.length = n) (hls : ls.size = nL) (hroom : (rest.map fun v => v.category).sum ≤ 8) (hdg : decode cc pc = .ok (.invokevirtual index, 3)) (hcs : cells ≤ R.cells ∧ slots ≤ R.slots) {st : List Value} (hst : st = As.reverse ++ .ref b :: rest)
    (kk : ∀ (H1 : Heap) (locs1 : List Loc), va_P D vwCl ws2 H1 → va_D A ws2 → va_S A H0 H1 locs1 → W p l e R s m args below meth c H1 locs1 cells slots Q (F0 m (pc + 3) ls rest)) : W p l e R s m args below meth c H locs cells slots Q (F0 m pc ls st) := by
  subst hst
  subst hq0
  have hPc := hP.sub isC (z_fm (w2 := wc) hC)
  have hDc := hD.sub isC hnC hC
  have hFc := va_free (wc := wc) hD hS hA isC hC
  refine va_callv (va_runV (As := As) (rest := rest) S (hM H.size) cw ⟨zPc_blind, va_recv hK hPc hcl hrc, fun U hU hW => ⟨rfl, by rw [hU], by rw [hU]; exact hPc, va_K.moved hW.alike hK, hDc.weaken (fun _ _ _ _ => trivial)⟩⟩ rfl hAs hls rfl (lv_room hroom) hdg hcs) hS (fun q _ h => hFc q h) hFc (fun u t H1 locs2 ht hvm hw hB hz1 hk1 hS2 => ?_)
  obtain ⟨hP1, hK1, hD1⟩ := hB
  rw [ht] at hP1
  obtain ⟨a, b⟩ := z_join hP hD hS hA isC isR hC h2C h2R hdis hcov hk1 hP1 hD1
  exact kk H1 locs2 a b hS2
/-- a static method that touches no cell -/
theorem zcallSi (S : CallFix p m c cc nL s args Ts own) (hM : zMi l y wy rm D cI cB As [] r []) (cw : CallB R s args own index y bytes maxL ret wy rm 0 0 n ∧ (Cond.static y).before args s = true) (hK : va_K D vwCl [(cI, .int), (cB, .byte)] s) (hP : va_P D vwCl ws H) (hD : va_D A ws) (hS : va_S A H0 H locs) (hA : ∀ q : Nat, H0.size ≤ q → A q)
    (hAs : As.length = n) (hls : ls.size = nL) (hroom : (rest.map fun v => v.category).sum ≤ 8) (hdg : decode cc pc = .ok (.invokestatic index, 3)) (hcs : cells ≤ R.cells ∧ slots ≤ R.slots) {st : List Value} (hst : st = As.reverse ++ rest)
    (kk : ∀ (H1 : Heap) (locs1 : List Loc), va_P D vwCl ws H1 → va_D A ws → va_S A H0 H1 locs1 → W p l e R s m args below meth c H1 locs1 cells slots Q (F0 m (pc + 3) ls (.int r :: rest))) : W p l e R s m args below meth c H locs cells slots Q (F0 m pc ls st) := by
  subst hst
  have hFc : ∀ q : Nat, va_A [] H.size q → A q := fun q h => by
    rcases h with ⟨k, e, h⟩ | h
    · simp at h
    · exact hA q (Nat.le_trans hS.1 h)
  refine va_calli (va_runS (As := As) (rest := rest) S (hM H.size) cw ⟨zPc_blind, fun U hU hW => ⟨rfl, by rw [hU], fun k q h => by simp at h, va_K.moved hW.alike hK, ⟨fun i j p q h => by simp at h, fun k q h => by simp at h⟩⟩⟩ rfl hAs hls rfl (lv_room hroom) hdg hcs) hS (fun q _ h => hFc q h) hFc (fun r2 u t H1 locs2 ht hvm hw hB hz1 hk1 hS2 => ?_)
  subst hw
  exact kk H1 locs2 (hP.kept (fun k q hq => hk1 q.1 ((hP k q hq).lt) (fun h => by
    rcases h with ⟨k, e, h⟩ | h
    · simp at h
    · exact absurd ((hP _ q hq).lt) (by omega)))) hD hS2
/-- the words of a static call whose class may be another one -/
theorem z_cwS {ws' : List Cond} (n : Nat) (ht : ∀ w ∈ Ts, w.before args s = true) (hT : GoodIn Ts (va_wsS own index y wy)) (hw : wy = Cond.code y bytes maxL ret :: ws') (hrc : rm.cells = 0) (hrs : rm.slots = 0) (hd : y.cls ≠ "java/lang/invoke/MethodHandle" ∧ y.cls ≠ "java/lang/invoke/VarHandle" ∧ (parseMethodDescriptor y.desc).map (fun d => d.parameters.length) = some n) (hR : rm.frames + 1 ≤ R.frames ∧ 8 + (maxL + 11) + rm.locals ≤ R.locals) : CallB R s args own index y bytes maxL ret wy rm 0 0 n ∧ (Cond.static y).before args s = true := by
  have ok : ∀ w ∈ va_wsS own index y wy, w.before args s = true := fun w h => ht w (hT w h).1
  exact ⟨callB_of n ht (fun w h => hT w (by unfold va_wsS; exact List.mem_append_right _ h)) hw hrc hrs (ok _ (by simp [va_wsS])) (ok _ (by simp [va_wsS])) hd hR, ok _ (by simp [va_wsS])⟩
end ZR
end
section
/-! the words of the tables, each by its place -/
theorem wd_s0 : Cond.selects "SuitByTailors$Text" ⟨"SuitByTailors$Text", "byteAt", "(I)I"⟩ ⟨"SuitByTailors$Text", "byteAt", "(I)I"⟩ ∈ wG := wG_of (List.mem_append_left _ (List.mem_of_getElem? (i := 0) rfl)) rfl
theorem wd_s1 : Cond.selects "SuitByTailors$Text" ⟨"SuitByTailors$Text", "readItem", "(II)I"⟩ ⟨"SuitByTailors$Text", "readItem", "(II)I"⟩ ∈ wG := wG_of (List.mem_append_left _ (List.mem_of_getElem? (i := 1) rfl)) rfl
theorem wd_s2 : Cond.selects "SuitByTailors$Text" ⟨"SuitByTailors$Text", "readNumber", "(II)I"⟩ ⟨"SuitByTailors$Text", "readNumber", "(II)I"⟩ ∈ wG := wG_of (List.mem_append_left _ (List.mem_of_getElem? (i := 2) rfl)) rfl
theorem wd_s3 : Cond.selects "SuitByTailors$Plan" ⟨"SuitByTailors$Plan", "takesTailor", "(I)Z"⟩ ⟨"SuitByTailors$Plan", "takesTailor", "(I)Z"⟩ ∈ wG := wG_of (List.mem_append_left _ (List.mem_of_getElem? (i := 3) rfl)) rfl
theorem wd_s4 : Cond.selects "SuitByTailors$Plan" ⟨"SuitByTailors$Plan", "takesPart", "(III)Z"⟩ ⟨"SuitByTailors$Plan", "takesPart", "(III)Z"⟩ ∈ wG := wG_of (List.mem_append_left _ (List.mem_of_getElem? (i := 4) rfl)) rfl
theorem wd_s5 : Cond.selects "SuitByTailors$Plan" ⟨"SuitByTailors$Plan", "takesSeam", "(II)Z"⟩ ⟨"SuitByTailors$Plan", "takesSeam", "(II)Z"⟩ ∈ wG := wG_of (List.mem_append_left _ (List.mem_of_getElem? (i := 5) rfl)) rfl
theorem wd_s6 : Cond.selects "SuitByTailors$Plan" ⟨"SuitByTailors$Plan", "takesGap", "(I)Z"⟩ ⟨"SuitByTailors$Plan", "takesGap", "(I)Z"⟩ ∈ wG := wG_of (List.mem_append_left _ (List.mem_of_getElem? (i := 6) rfl)) rfl
theorem wd_s7 : Cond.selects "SuitByTailors$Plan" ⟨"SuitByTailors$Plan", "takesBoy", "(I)Z"⟩ ⟨"SuitByTailors$Plan", "takesBoy", "(I)Z"⟩ ∈ wG := wG_of (List.mem_append_left _ (List.mem_of_getElem? (i := 7) rfl)) rfl
theorem wd_s8 : Cond.selects "SuitByTailors$Plan" ⟨"SuitByTailors$Plan", "takesBolt", "(I)Z"⟩ ⟨"SuitByTailors$Plan", "takesBolt", "(I)Z"⟩ ∈ wG := wG_of (List.mem_append_left _ (List.mem_of_getElem? (i := 8) rfl)) rfl
theorem wd_s9 : Cond.selects "SuitByTailors" ⟨"SuitByTailors", "slipNow", "(I)I"⟩ ⟨"SuitByTailors", "slipNow", "(I)I"⟩ ∈ wG := wG_of (List.mem_append_left _ (List.mem_of_getElem? (i := 9) rfl)) rfl
theorem wd_s10 : Cond.selects "SuitByTailors" ⟨"SuitByTailors", "lengthNow", "(I)I"⟩ ⟨"SuitByTailors", "lengthNow", "(I)I"⟩ ∈ wG := wG_of (List.mem_append_left _ (List.mem_of_getElem? (i := 10) rfl)) rfl
theorem wd_s11 : Cond.selects "SuitByTailors" ⟨"SuitByTailors", "measureNow", "()V"⟩ ⟨"SuitByTailors", "measureNow", "()V"⟩ ∈ wG := wG_of (List.mem_append_left _ (List.mem_of_getElem? (i := 11) rfl)) rfl
theorem wd_s12 : Cond.selects "SuitByTailors$OrderSearch" ⟨"SuitByTailors$OrderSearch", "tryPlace", "(LSuitByTailors$Plan;II)V"⟩ ⟨"SuitByTailors$OrderSearch", "tryPlace", "(LSuitByTailors$Plan;II)V"⟩ ∈ wG := wG_of (List.mem_append_left _ (List.mem_of_getElem? (i := 12) rfl)) rfl
theorem wd_s13 : Cond.selects "SuitByTailors$OrderSearch" ⟨"SuitByTailors$OrderSearch", "isPlaced", "(I)Z"⟩ ⟨"SuitByTailors$OrderSearch", "isPlaced", "(I)Z"⟩ ∈ wG := wG_of (List.mem_append_left _ (List.mem_of_getElem? (i := 13) rfl)) rfl
theorem wd_s14 : Cond.selects "SuitByTailors$OrderSearch" ⟨"SuitByTailors$OrderSearch", "tryPart", "(LSuitByTailors$Plan;III)V"⟩ ⟨"SuitByTailors$OrderSearch", "tryPart", "(LSuitByTailors$Plan;III)V"⟩ ∈ wG := wG_of (List.mem_append_left _ (List.mem_of_getElem? (i := 14) rfl)) rfl
theorem wd_s15 : Cond.selects "SuitByTailors$OrderSearch" ⟨"SuitByTailors$OrderSearch", "gapsWithPlaced", "(LSuitByTailors$Plan;I)I"⟩ ⟨"SuitByTailors$OrderSearch", "gapsWithPlaced", "(LSuitByTailors$Plan;I)I"⟩ ∈ wG := wG_of (List.mem_append_left _ (List.mem_of_getElem? (i := 15) rfl)) rfl
theorem wd_s16 : Cond.selects "SuitByTailors" ⟨"SuitByTailors", "isClosedByBribing", "(I)Z"⟩ ⟨"SuitByTailors", "isClosedByBribing", "(I)Z"⟩ ∈ wG := wG_of (List.mem_append_left _ (List.mem_of_getElem? (i := 16) rfl)) rfl
theorem wd_s17 : Cond.selects "SuitByTailors" ⟨"SuitByTailors", "levelSeams", "()V"⟩ ⟨"SuitByTailors", "levelSeams", "()V"⟩ ∈ wG := wG_of (List.mem_append_left _ (List.mem_of_getElem? (i := 17) rfl)) rfl
theorem wd_s18 : Cond.selects "SuitByTailors$BoltSearch" ⟨"SuitByTailors$BoltSearch", "findsBolts", "(LSuitByTailors$Plan;[III)Z"⟩ ⟨"SuitByTailors$BoltSearch", "findsBolts", "(LSuitByTailors$Plan;[III)Z"⟩ ∈ wG := wG_of (List.mem_append_left _ (List.mem_of_getElem? (i := 18) rfl)) rfl
theorem wd_s19 : Cond.selects "SuitByTailors$BoltSearch" ⟨"SuitByTailors$BoltSearch", "findsRest", "(LSuitByTailors$Plan;[III)Z"⟩ ⟨"SuitByTailors$BoltSearch", "findsRest", "(LSuitByTailors$Plan;[III)Z"⟩ ∈ wG := wG_of (List.mem_append_left _ (List.mem_of_getElem? (i := 19) rfl)) rfl
theorem wd_s20 : Cond.selects "SuitByTailors" ⟨"SuitByTailors", "cutByBoy", "(I)V"⟩ ⟨"SuitByTailors", "cutByBoy", "(I)V"⟩ ∈ wG := wG_of (List.mem_append_left _ (List.mem_of_getElem? (i := 20) rfl)) rfl
theorem wd_s21 : Cond.selects "SuitByTailorsModel" ⟨"SuitByTailorsModel", "begins", "()V"⟩ ⟨"SuitByTailorsModel", "begins", "()V"⟩ ∈ wG := wG_of (List.mem_append_left _ (List.mem_of_getElem? (i := 21) rfl)) rfl
theorem wd_s22 : Cond.selects "SuitByTailorsModel" ⟨"SuitByTailorsModel", "takes", "()V"⟩ ⟨"SuitByTailorsModel", "takes", "()V"⟩ ∈ wG := wG_of (List.mem_append_left _ (List.mem_of_getElem? (i := 22) rfl)) rfl
theorem wd_s23 : Cond.selects "SuitByTailorsModel" ⟨"SuitByTailorsModel", "isItem", "()Z"⟩ ⟨"SuitByTailorsModel", "isItem", "()Z"⟩ ∈ wG := wG_of (List.mem_append_left _ (List.mem_of_getElem? (i := 23) rfl)) rfl
theorem wd_s24 : Cond.selects "SuitByTailorsModel" ⟨"SuitByTailorsModel", "number", "()I"⟩ ⟨"SuitByTailorsModel", "number", "()I"⟩ ∈ wG := wG_of (List.mem_append_left _ (List.mem_of_getElem? (i := 24) rfl)) rfl
theorem wd_s25 : Cond.selects "SuitByTailorsModel" ⟨"SuitByTailorsModel", "isGood", "(I)Z"⟩ ⟨"SuitByTailorsModel", "isGood", "(I)Z"⟩ ∈ wG := wG_of (List.mem_append_left _ (List.mem_of_getElem? (i := 25) rfl)) rfl
theorem wd_s26 : Cond.selects "SuitByTailorsModel" ⟨"SuitByTailorsModel", "isPart", "(I)Z"⟩ ⟨"SuitByTailorsModel", "isPart", "(I)Z"⟩ ∈ wG := wG_of (List.mem_append_left _ (List.mem_of_getElem? (i := 26) rfl)) rfl
theorem wd_s27 : Cond.selects "SuitByTailorsModel" ⟨"SuitByTailorsModel", "placeOf", "(I)I"⟩ ⟨"SuitByTailorsModel", "placeOf", "(I)I"⟩ ∈ wG := wG_of (List.mem_append_left _ (List.mem_of_getElem? (i := 27) rfl)) rfl
theorem wd_s28 : Cond.selects "SuitByTailorsModel" ⟨"SuitByTailorsModel", "slipNow", "(I)I"⟩ ⟨"SuitByTailorsModel", "slipNow", "(I)I"⟩ ∈ wG := wG_of (List.mem_append_left _ (List.mem_of_getElem? (i := 28) rfl)) rfl
theorem wd_s29 : Cond.selects "SuitByTailorsModel" ⟨"SuitByTailorsModel", "cutOf", "(II)I"⟩ ⟨"SuitByTailorsModel", "cutOf", "(II)I"⟩ ∈ wG := wG_of (List.mem_append_left _ (List.mem_of_getElem? (i := 29) rfl)) rfl
theorem wd_s30 : Cond.selects "SuitByTailorsModel" ⟨"SuitByTailorsModel", "lengths", "()V"⟩ ⟨"SuitByTailorsModel", "lengths", "()V"⟩ ∈ wG := wG_of (List.mem_append_left _ (List.mem_of_getElem? (i := 30) rfl)) rfl
theorem wd_s31 : Cond.selects "SuitByTailorsModel" ⟨"SuitByTailorsModel", "gaps", "()I"⟩ ⟨"SuitByTailorsModel", "gaps", "()I"⟩ ∈ wG := wG_of (List.mem_append_left _ (List.mem_of_getElem? (i := 31) rfl)) rfl
theorem wd_s32 : Cond.selects "SuitByTailorsModel" ⟨"SuitByTailorsModel", "gapOf", "(I)I"⟩ ⟨"SuitByTailorsModel", "gapOf", "(I)I"⟩ ∈ wG := wG_of (List.mem_append_left _ (List.mem_of_getElem? (i := 32) rfl)) rfl
theorem wd_s33 : Cond.selects "SuitByTailorsModel" ⟨"SuitByTailorsModel", "isClosed", "()Z"⟩ ⟨"SuitByTailorsModel", "isClosed", "()Z"⟩ ∈ wG := wG_of (List.mem_append_left _ (List.mem_of_getElem? (i := 33) rfl)) rfl
theorem wd_s34 : Cond.selects "SuitByTailorsModel" ⟨"SuitByTailorsModel", "known", "()V"⟩ ⟨"SuitByTailorsModel", "known", "()V"⟩ ∈ wG := wG_of (List.mem_append_left _ (List.mem_of_getElem? (i := 34) rfl)) rfl
theorem wd_s35 : Cond.selects "SuitByTailorsModel" ⟨"SuitByTailorsModel", "copies", "(II)V"⟩ ⟨"SuitByTailorsModel", "copies", "(II)V"⟩ ∈ wG := wG_of (List.mem_append_left _ (List.mem_of_getElem? (i := 35) rfl)) rfl
theorem wd_s36 : Cond.selects "SuitByTailorsModel" ⟨"SuitByTailorsModel", "nextOrder", "()Z"⟩ ⟨"SuitByTailorsModel", "nextOrder", "()Z"⟩ ∈ wG := wG_of (List.mem_append_left _ (List.mem_of_getElem? (i := 36) rfl)) rfl
theorem wd_s37 : Cond.selects "SuitByTailorsModel" ⟨"SuitByTailorsModel", "isTailor", "(I)Z"⟩ ⟨"SuitByTailorsModel", "isTailor", "(I)Z"⟩ ∈ wG := wG_of (List.mem_append_left _ (List.mem_of_getElem? (i := 37) rfl)) rfl
theorem wd_s38 : Cond.selects "SuitByTailorsModel" ⟨"SuitByTailorsModel", "many", "()I"⟩ ⟨"SuitByTailorsModel", "many", "()I"⟩ ∈ wG := wG_of (List.mem_append_left _ (List.mem_of_getElem? (i := 38) rfl)) rfl
theorem wd_s39 : Cond.selects "SuitByTailorsModel" ⟨"SuitByTailorsModel", "nextBolts", "()Z"⟩ ⟨"SuitByTailorsModel", "nextBolts", "()Z"⟩ ∈ wG := wG_of (List.mem_append_left _ (List.mem_of_getElem? (i := 39) rfl)) rfl
theorem wd_s40 : Cond.selects "SuitByTailorsModel" ⟨"SuitByTailorsModel", "tailorOf", "(II)I"⟩ ⟨"SuitByTailorsModel", "tailorOf", "(II)I"⟩ ∈ wG := wG_of (List.mem_append_left _ (List.mem_of_getElem? (i := 40) rfl)) rfl
theorem wd_0 : Cond.initialized "SuitByTailorsLaw" ∈ wG := wG_of (List.mem_append_right _ (List.mem_append_left _ (List.mem_of_getElem? (i := 0) rfl))) rfl
theorem wd_1 : Cond.initialized "SuitByTailors" ∈ wG := wG_of (List.mem_append_right _ (List.mem_append_left _ (List.mem_of_getElem? (i := 1) rfl))) rfl
theorem wd_2 : Cond.initialized "SuitByTailors$Text" ∈ wG := wG_of (List.mem_append_right _ (List.mem_append_left _ (List.mem_of_getElem? (i := 2) rfl))) rfl
theorem wd_3 : Cond.initialized "SuitByTailors$Fitting" ∈ wG := wG_of (List.mem_append_right _ (List.mem_append_left _ (List.mem_of_getElem? (i := 3) rfl))) rfl
theorem wd_4 : Cond.initialized "SuitByTailors$FittingStack" ∈ wG := wG_of (List.mem_append_right _ (List.mem_append_left _ (List.mem_of_getElem? (i := 4) rfl))) rfl
theorem wd_5 : Cond.initialized "java/lang/Math" ∈ wG := wG_of (List.mem_append_right _ (List.mem_append_left _ (List.mem_of_getElem? (i := 5) rfl))) rfl
theorem wd_6 : Cond.initialized "SuitByTailors$Sightings" ∈ wG := wG_of (List.mem_append_right _ (List.mem_append_left _ (List.mem_of_getElem? (i := 6) rfl))) rfl
theorem wd_7 : Cond.initialized "SuitByTailors$Pins" ∈ wG := wG_of (List.mem_append_right _ (List.mem_append_left _ (List.mem_of_getElem? (i := 7) rfl))) rfl
theorem wd_8 : Cond.initialized "SuitByTailors$OrderSearch" ∈ wG := wG_of (List.mem_append_right _ (List.mem_append_left _ (List.mem_of_getElem? (i := 8) rfl))) rfl
theorem wd_9 : Cond.initialized "SuitByTailors$BoltSearch" ∈ wG := wG_of (List.mem_append_right _ (List.mem_append_left _ (List.mem_of_getElem? (i := 9) rfl))) rfl
theorem wd_10 : Cond.initialized "SuitByTailors$Plan" ∈ wG := wG_of (List.mem_append_right _ (List.mem_append_left _ (List.mem_of_getElem? (i := 10) rfl))) rfl
theorem wd_11 : Cond.initialized "java/lang/String" ∈ wG := wG_of (List.mem_append_right _ (List.mem_append_left _ (List.mem_of_getElem? (i := 11) rfl))) rfl
theorem wd_12 : Cond.initialized "java/lang/StringLatin1" ∈ wG := wG_of (List.mem_append_right _ (List.mem_append_left _ (List.mem_of_getElem? (i := 12) rfl))) rfl
theorem wd_13 : Cond.initialized "jdk/internal/util/Preconditions" ∈ wG := wG_of (List.mem_append_right _ (List.mem_append_left _ (List.mem_of_getElem? (i := 13) rfl))) rfl
theorem wd_14 : Cond.initialized "java/lang/StringUTF16" ∈ wG := wG_of (List.mem_append_right _ (List.mem_append_left _ (List.mem_of_getElem? (i := 14) rfl))) rfl
theorem wd_15 : Cond.initialized "SuitByTailorsModel" ∈ wG := wG_of (List.mem_append_right _ (List.mem_append_left _ (List.mem_of_getElem? (i := 15) rfl))) rfl
theorem wd_16 : Cond.classLink "SuitByTailorsLaw" 7 "SuitByTailors" ∈ wG := wG_of (List.mem_append_right _ (List.mem_append_left _ (List.mem_of_getElem? (i := 16) rfl))) rfl
theorem wd_17 : Cond.instantiable "SuitByTailors" 14 ∈ wG := wG_of (List.mem_append_right _ (List.mem_append_left _ (List.mem_of_getElem? (i := 17) rfl))) rfl
theorem wd_18 : Cond.methodLink "SuitByTailorsLaw" 9 ⟨"SuitByTailors", "<init>", "()V"⟩ ∈ wG := wG_of (List.mem_append_right _ (List.mem_append_left _ (List.mem_of_getElem? (i := 18) rfl))) rfl
theorem wd_19 : Cond.instanceMethod ⟨"SuitByTailors", "<init>", "()V"⟩ ∈ wG := wG_of (List.mem_append_right _ (List.mem_append_left _ (List.mem_of_getElem? (i := 19) rfl))) rfl
theorem wd_20 : Cond.code ⟨"SuitByTailors", "<init>", "()V"⟩ prog_1_method_1_code 2 none ∈ wG := wG_of (List.mem_append_right _ (List.mem_append_left _ (List.mem_of_getElem? (i := 20) rfl))) rfl
theorem wd_21 : Cond.methodLink "SuitByTailors" 1 ⟨"java/lang/Object", "<init>", "()V"⟩ ∈ wG := wG_of (List.mem_append_right _ (List.mem_append_left _ (List.mem_of_getElem? (i := 21) rfl))) rfl
theorem wd_22 : Cond.instanceMethod ⟨"java/lang/Object", "<init>", "()V"⟩ ∈ wG := wG_of (List.mem_append_right _ (List.mem_append_left _ (List.mem_of_getElem? (i := 22) rfl))) rfl
theorem wd_23 : Cond.code ⟨"java/lang/Object", "<init>", "()V"⟩ object_method_1_code 1 none ∈ wG := wG_of (List.mem_append_right _ (List.mem_append_left _ (List.mem_of_getElem? (i := 23) rfl))) rfl
theorem wd_24 : Cond.classLink "SuitByTailors" 7 "SuitByTailors$Text" ∈ wG := wG_of (List.mem_append_right _ (List.mem_append_left _ (List.mem_of_getElem? (i := 24) rfl))) rfl
theorem wd_25 : Cond.instantiable "SuitByTailors$Text" 3 ∈ wG := wG_of (List.mem_append_right _ (List.mem_append_left _ (List.mem_of_getElem? (i := 25) rfl))) rfl
theorem wd_27 : Cond.instanceMethod ⟨"SuitByTailors$Text", "<init>", "()V"⟩ ∈ wG := wG_of (List.mem_append_right _ (List.mem_append_left _ (List.mem_of_getElem? (i := 27) rfl))) rfl
theorem wd_28 : Cond.code ⟨"SuitByTailors$Text", "<init>", "()V"⟩ prog_9_method_1_code 1 none ∈ wG := wG_of (List.mem_append_right _ (List.mem_append_left _ (List.mem_of_getElem? (i := 28) rfl))) rfl
theorem wd_29 : Cond.methodLink "SuitByTailors$Text" 3 ⟨"java/lang/Object", "<init>", "()V"⟩ ∈ wG := wG_of (List.mem_append_right _ (List.mem_append_left _ (List.mem_of_getElem? (i := 29) rfl))) rfl
theorem wd_30 : Cond.fieldLink "SuitByTailors$Text" 9 "SuitByTailors$Text" "bytes" "[B" ∈ wG := wG_of (List.mem_append_right _ (List.mem_append_left _ (List.mem_of_getElem? (i := 30) rfl))) rfl
theorem wd_31 : Cond.fieldLink "SuitByTailors$Text" 15 "SuitByTailors$Text" "numbers" "[I" ∈ wG := wG_of (List.mem_append_right _ (List.mem_append_left _ (List.mem_of_getElem? (i := 31) rfl))) rfl
theorem wd_32 : Cond.fieldLink "SuitByTailors$Text" 19 "SuitByTailors$Text" "length" "I" ∈ wG := wG_of (List.mem_append_right _ (List.mem_append_left _ (List.mem_of_getElem? (i := 32) rfl))) rfl
theorem wd_33 : Cond.fieldLink "SuitByTailors" 105 "SuitByTailors$Text" "length" "I" ∈ wG := wG_of (List.mem_append_right _ (List.mem_append_left _ (List.mem_of_getElem? (i := 33) rfl))) rfl
theorem wd_34 : Cond.laysFinal "SuitByTailors$Text" "SuitByTailors$Text" "bytes" "[B" ∈ wG := wG_of (List.mem_append_right _ (List.mem_append_left _ (List.mem_of_getElem? (i := 34) rfl))) rfl
theorem wd_36 : Cond.laysFinal "SuitByTailors$Text" "SuitByTailors$Text" "numbers" "[I" ∈ wG := wG_of (List.mem_append_right _ (List.mem_append_left _ (List.mem_of_getElem? (i := 36) rfl))) rfl
theorem wd_38 : Cond.lays "SuitByTailors$Text" "SuitByTailors$Text" "length" "I" ∈ wG := wG_of (List.mem_append_right _ (List.mem_append_left _ (List.mem_of_getElem? (i := 38) rfl))) rfl
theorem wd_41 : Cond.arrayClass Jvm.ClassFile.FieldType.byte ∈ wG := wG_of (List.mem_append_right _ (List.mem_append_left _ (List.mem_of_getElem? (i := 41) rfl))) rfl
theorem wd_42 : Cond.arrayClass Jvm.ClassFile.FieldType.int ∈ wG := wG_of (List.mem_append_right _ (List.mem_append_left _ (List.mem_of_getElem? (i := 42) rfl))) rfl
theorem wd_43 : Cond.classLink "SuitByTailors" 16 "SuitByTailors$Fitting" ∈ wG := wG_of (List.mem_append_right _ (List.mem_append_left _ (List.mem_of_getElem? (i := 43) rfl))) rfl
theorem wd_44 : Cond.instantiable "SuitByTailors$Fitting" 2 ∈ wG := wG_of (List.mem_append_right _ (List.mem_append_left _ (List.mem_of_getElem? (i := 44) rfl))) rfl
theorem wd_45 : Cond.methodLink "SuitByTailors" 18 ⟨"SuitByTailors$Fitting", "<init>", "()V"⟩ ∈ wG := wG_of (List.mem_append_right _ (List.mem_append_left _ (List.mem_of_getElem? (i := 45) rfl))) rfl
theorem wd_46 : Cond.instanceMethod ⟨"SuitByTailors$Fitting", "<init>", "()V"⟩ ∈ wG := wG_of (List.mem_append_right _ (List.mem_append_left _ (List.mem_of_getElem? (i := 46) rfl))) rfl
theorem wd_47 : Cond.code ⟨"SuitByTailors$Fitting", "<init>", "()V"⟩ prog_3_method_1_code 1 none ∈ wG := wG_of (List.mem_append_right _ (List.mem_append_left _ (List.mem_of_getElem? (i := 47) rfl))) rfl
theorem wd_48 : Cond.methodLink "SuitByTailors$Fitting" 3 ⟨"java/lang/Object", "<init>", "()V"⟩ ∈ wG := wG_of (List.mem_append_right _ (List.mem_append_left _ (List.mem_of_getElem? (i := 48) rfl))) rfl
theorem wd_49 : Cond.methodLink "SuitByTailors$Fitting" 18 ⟨"SuitByTailors$Fitting", "startAnew", "()V"⟩ ∈ wG := wG_of (List.mem_append_right _ (List.mem_append_left _ (List.mem_of_getElem? (i := 49) rfl))) rfl
theorem wd_50 : Cond.instanceMethod ⟨"SuitByTailors$Fitting", "startAnew", "()V"⟩ ∈ wG := wG_of (List.mem_append_right _ (List.mem_append_left _ (List.mem_of_getElem? (i := 50) rfl))) rfl
theorem wd_51 : Cond.selects "SuitByTailors$Fitting" ⟨"SuitByTailors$Fitting", "startAnew", "()V"⟩ ⟨"SuitByTailors$Fitting", "startAnew", "()V"⟩ ∈ wG := wG_of (List.mem_append_right _ (List.mem_append_left _ (List.mem_of_getElem? (i := 51) rfl))) rfl
theorem wd_52 : Cond.code ⟨"SuitByTailors$Fitting", "startAnew", "()V"⟩ prog_3_method_2_code 2 none ∈ wG := wG_of (List.mem_append_right _ (List.mem_append_left _ (List.mem_of_getElem? (i := 52) rfl))) rfl
theorem wd_53 : Cond.fieldLink "SuitByTailors$Fitting" 9 "SuitByTailors$Fitting" "partAt" "[I" ∈ wG := wG_of (List.mem_append_right _ (List.mem_append_left _ (List.mem_of_getElem? (i := 53) rfl))) rfl
theorem wd_54 : Cond.fieldLink "SuitByTailors$FittingStack" 34 "SuitByTailors$Fitting" "partAt" "[I" ∈ wG := wG_of (List.mem_append_right _ (List.mem_append_left _ (List.mem_of_getElem? (i := 54) rfl))) rfl
theorem wd_55 : Cond.fieldLink "SuitByTailors$Fitting" 15 "SuitByTailors$Fitting" "longerBy" "[I" ∈ wG := wG_of (List.mem_append_right _ (List.mem_append_left _ (List.mem_of_getElem? (i := 55) rfl))) rfl
theorem wd_56 : Cond.fieldLink "SuitByTailors$FittingStack" 37 "SuitByTailors$Fitting" "longerBy" "[I" ∈ wG := wG_of (List.mem_append_right _ (List.mem_append_left _ (List.mem_of_getElem? (i := 56) rfl))) rfl
theorem wd_57 : Cond.fieldLink "SuitByTailors" 178 "SuitByTailors$Fitting" "longerBy" "[I" ∈ wG := wG_of (List.mem_append_right _ (List.mem_append_left _ (List.mem_of_getElem? (i := 57) rfl))) rfl
theorem wd_58 : Cond.laysFinal "SuitByTailors$Fitting" "SuitByTailors$Fitting" "partAt" "[I" ∈ wG := wG_of (List.mem_append_right _ (List.mem_append_left _ (List.mem_of_getElem? (i := 58) rfl))) rfl
theorem wd_60 : Cond.laysFinal "SuitByTailors$Fitting" "SuitByTailors$Fitting" "longerBy" "[I" ∈ wG := wG_of (List.mem_append_right _ (List.mem_append_left _ (List.mem_of_getElem? (i := 60) rfl))) rfl
theorem wd_63 : Cond.classLink "SuitByTailors" 23 "SuitByTailors$FittingStack" ∈ wG := wG_of (List.mem_append_right _ (List.mem_append_left _ (List.mem_of_getElem? (i := 63) rfl))) rfl
theorem wd_64 : Cond.instantiable "SuitByTailors$FittingStack" 5 ∈ wG := wG_of (List.mem_append_right _ (List.mem_append_left _ (List.mem_of_getElem? (i := 64) rfl))) rfl
theorem wd_65 : Cond.methodLink "SuitByTailors" 25 ⟨"SuitByTailors$FittingStack", "<init>", "(I)V"⟩ ∈ wG := wG_of (List.mem_append_right _ (List.mem_append_left _ (List.mem_of_getElem? (i := 65) rfl))) rfl
theorem wd_66 : Cond.instanceMethod ⟨"SuitByTailors$FittingStack", "<init>", "(I)V"⟩ ∈ wG := wG_of (List.mem_append_right _ (List.mem_append_left _ (List.mem_of_getElem? (i := 66) rfl))) rfl
theorem wd_67 : Cond.code ⟨"SuitByTailors$FittingStack", "<init>", "(I)V"⟩ prog_4_method_1_code 2 none ∈ wG := wG_of (List.mem_append_right _ (List.mem_append_left _ (List.mem_of_getElem? (i := 67) rfl))) rfl
theorem wd_68 : Cond.methodLink "SuitByTailors$FittingStack" 3 ⟨"java/lang/Object", "<init>", "()V"⟩ ∈ wG := wG_of (List.mem_append_right _ (List.mem_append_left _ (List.mem_of_getElem? (i := 68) rfl))) rfl
theorem wd_69 : Cond.methodLink "SuitByTailors$FittingStack" 18 ⟨"java/lang/Math", "max", "(II)I"⟩ ∈ wG := wG_of (List.mem_append_right _ (List.mem_append_left _ (List.mem_of_getElem? (i := 69) rfl))) rfl
theorem wd_70 : Cond.static ⟨"java/lang/Math", "max", "(II)I"⟩ ∈ wG := wG_of (List.mem_append_right _ (List.mem_append_left _ (List.mem_of_getElem? (i := 70) rfl))) rfl
theorem wd_71 : Cond.code ⟨"java/lang/Math", "max", "(II)I"⟩ prog_12_method_65_code 2 (some .int) ∈ wG := wG_of (List.mem_append_right _ (List.mem_append_left _ (List.mem_of_getElem? (i := 71) rfl))) rfl
theorem wd_72 : Cond.fieldLink "SuitByTailors$FittingStack" 24 "SuitByTailors$FittingStack" "most" "I" ∈ wG := wG_of (List.mem_append_right _ (List.mem_append_left _ (List.mem_of_getElem? (i := 72) rfl))) rfl
theorem wd_73 : Cond.fieldLink "SuitByTailors$FittingStack" 27 "SuitByTailors$FittingStack" "partAt" "[I" ∈ wG := wG_of (List.mem_append_right _ (List.mem_append_left _ (List.mem_of_getElem? (i := 73) rfl))) rfl
theorem wd_74 : Cond.fieldLink "SuitByTailors$FittingStack" 31 "SuitByTailors$FittingStack" "longerBy" "[I" ∈ wG := wG_of (List.mem_append_right _ (List.mem_append_left _ (List.mem_of_getElem? (i := 74) rfl))) rfl
theorem wd_75 : Cond.fieldLink "SuitByTailors$FittingStack" 9 "SuitByTailors$FittingStack" "size" "I" ∈ wG := wG_of (List.mem_append_right _ (List.mem_append_left _ (List.mem_of_getElem? (i := 75) rfl))) rfl
theorem wd_76 : Cond.fieldLink "SuitByTailors" 181 "SuitByTailors$FittingStack" "size" "I" ∈ wG := wG_of (List.mem_append_right _ (List.mem_append_left _ (List.mem_of_getElem? (i := 76) rfl))) rfl
theorem wd_77 : Cond.fieldLink "SuitByTailors$FittingStack" 15 "SuitByTailors$FittingStack" "next" "I" ∈ wG := wG_of (List.mem_append_right _ (List.mem_append_left _ (List.mem_of_getElem? (i := 77) rfl))) rfl
theorem wd_78 : Cond.laysFinal "SuitByTailors$FittingStack" "SuitByTailors$FittingStack" "most" "I" ∈ wG := wG_of (List.mem_append_right _ (List.mem_append_left _ (List.mem_of_getElem? (i := 78) rfl))) rfl
theorem wd_80 : Cond.laysFinal "SuitByTailors$FittingStack" "SuitByTailors$FittingStack" "partAt" "[I" ∈ wG := wG_of (List.mem_append_right _ (List.mem_append_left _ (List.mem_of_getElem? (i := 80) rfl))) rfl
theorem wd_82 : Cond.laysFinal "SuitByTailors$FittingStack" "SuitByTailors$FittingStack" "longerBy" "[I" ∈ wG := wG_of (List.mem_append_right _ (List.mem_append_left _ (List.mem_of_getElem? (i := 82) rfl))) rfl
theorem wd_84 : Cond.lays "SuitByTailors$FittingStack" "SuitByTailors$FittingStack" "size" "I" ∈ wG := wG_of (List.mem_append_right _ (List.mem_append_left _ (List.mem_of_getElem? (i := 84) rfl))) rfl
theorem wd_86 : Cond.lays "SuitByTailors$FittingStack" "SuitByTailors$FittingStack" "next" "I" ∈ wG := wG_of (List.mem_append_right _ (List.mem_append_left _ (List.mem_of_getElem? (i := 86) rfl))) rfl
theorem wd_89 : Cond.classLink "SuitByTailors" 35 "SuitByTailors$Sightings" ∈ wG := wG_of (List.mem_append_right _ (List.mem_append_left _ (List.mem_of_getElem? (i := 89) rfl))) rfl
theorem wd_90 : Cond.instantiable "SuitByTailors$Sightings" 4 ∈ wG := wG_of (List.mem_append_right _ (List.mem_append_left _ (List.mem_of_getElem? (i := 90) rfl))) rfl
theorem wd_92 : Cond.instanceMethod ⟨"SuitByTailors$Sightings", "<init>", "()V"⟩ ∈ wG := wG_of (List.mem_append_right _ (List.mem_append_left _ (List.mem_of_getElem? (i := 92) rfl))) rfl
theorem wd_93 : Cond.code ⟨"SuitByTailors$Sightings", "<init>", "()V"⟩ prog_8_method_1_code 1 none ∈ wG := wG_of (List.mem_append_right _ (List.mem_append_left _ (List.mem_of_getElem? (i := 93) rfl))) rfl
theorem wd_94 : Cond.methodLink "SuitByTailors$Sightings" 3 ⟨"java/lang/Object", "<init>", "()V"⟩ ∈ wG := wG_of (List.mem_append_right _ (List.mem_append_left _ (List.mem_of_getElem? (i := 94) rfl))) rfl
theorem wd_95 : Cond.fieldLink "SuitByTailors$Sightings" 9 "SuitByTailors$Sightings" "tailorOf" "[I" ∈ wG := wG_of (List.mem_append_right _ (List.mem_append_left _ (List.mem_of_getElem? (i := 95) rfl))) rfl
theorem wd_96 : Cond.fieldLink "SuitByTailors$Sightings" 15 "SuitByTailors$Sightings" "toldOf" "[I" ∈ wG := wG_of (List.mem_append_right _ (List.mem_append_left _ (List.mem_of_getElem? (i := 96) rfl))) rfl
theorem wd_97 : Cond.fieldLink "SuitByTailors$Sightings" 18 "SuitByTailors$Sightings" "cutOf" "[I" ∈ wG := wG_of (List.mem_append_right _ (List.mem_append_left _ (List.mem_of_getElem? (i := 97) rfl))) rfl
theorem wd_98 : Cond.fieldLink "SuitByTailors$Sightings" 21 "SuitByTailors$Sightings" "size" "I" ∈ wG := wG_of (List.mem_append_right _ (List.mem_append_left _ (List.mem_of_getElem? (i := 98) rfl))) rfl
theorem wd_99 : Cond.fieldLink "SuitByTailors" 117 "SuitByTailors$Sightings" "size" "I" ∈ wG := wG_of (List.mem_append_right _ (List.mem_append_left _ (List.mem_of_getElem? (i := 99) rfl))) rfl
theorem wd_100 : Cond.laysFinal "SuitByTailors$Sightings" "SuitByTailors$Sightings" "tailorOf" "[I" ∈ wG := wG_of (List.mem_append_right _ (List.mem_append_left _ (List.mem_of_getElem? (i := 100) rfl))) rfl
theorem wd_102 : Cond.laysFinal "SuitByTailors$Sightings" "SuitByTailors$Sightings" "toldOf" "[I" ∈ wG := wG_of (List.mem_append_right _ (List.mem_append_left _ (List.mem_of_getElem? (i := 102) rfl))) rfl
theorem wd_104 : Cond.laysFinal "SuitByTailors$Sightings" "SuitByTailors$Sightings" "cutOf" "[I" ∈ wG := wG_of (List.mem_append_right _ (List.mem_append_left _ (List.mem_of_getElem? (i := 104) rfl))) rfl
theorem wd_106 : Cond.lays "SuitByTailors$Sightings" "SuitByTailors$Sightings" "size" "I" ∈ wG := wG_of (List.mem_append_right _ (List.mem_append_left _ (List.mem_of_getElem? (i := 106) rfl))) rfl
theorem wd_109 : Cond.classLink "SuitByTailors" 42 "SuitByTailors$Pins" ∈ wG := wG_of (List.mem_append_right _ (List.mem_append_left _ (List.mem_of_getElem? (i := 109) rfl))) rfl
theorem wd_110 : Cond.instantiable "SuitByTailors$Pins" 3 ∈ wG := wG_of (List.mem_append_right _ (List.mem_append_left _ (List.mem_of_getElem? (i := 110) rfl))) rfl
theorem wd_112 : Cond.instanceMethod ⟨"SuitByTailors$Pins", "<init>", "()V"⟩ ∈ wG := wG_of (List.mem_append_right _ (List.mem_append_left _ (List.mem_of_getElem? (i := 112) rfl))) rfl
theorem wd_113 : Cond.code ⟨"SuitByTailors$Pins", "<init>", "()V"⟩ prog_6_method_1_code 1 none ∈ wG := wG_of (List.mem_append_right _ (List.mem_append_left _ (List.mem_of_getElem? (i := 113) rfl))) rfl
theorem wd_114 : Cond.methodLink "SuitByTailors$Pins" 3 ⟨"java/lang/Object", "<init>", "()V"⟩ ∈ wG := wG_of (List.mem_append_right _ (List.mem_append_left _ (List.mem_of_getElem? (i := 114) rfl))) rfl
theorem wd_115 : Cond.fieldLink "SuitByTailors$Pins" 9 "SuitByTailors$Pins" "seamOf" "[I" ∈ wG := wG_of (List.mem_append_right _ (List.mem_append_left _ (List.mem_of_getElem? (i := 115) rfl))) rfl
theorem wd_116 : Cond.fieldLink "SuitByTailors$Pins" 15 "SuitByTailors$Pins" "tailorOf" "[I" ∈ wG := wG_of (List.mem_append_right _ (List.mem_append_left _ (List.mem_of_getElem? (i := 116) rfl))) rfl
theorem wd_117 : Cond.fieldLink "SuitByTailors" 241 "SuitByTailors$Pins" "tailorOf" "[I" ∈ wG := wG_of (List.mem_append_right _ (List.mem_append_left _ (List.mem_of_getElem? (i := 117) rfl))) rfl
theorem wd_118 : Cond.fieldLink "SuitByTailors$Pins" 18 "SuitByTailors$Pins" "size" "I" ∈ wG := wG_of (List.mem_append_right _ (List.mem_append_left _ (List.mem_of_getElem? (i := 118) rfl))) rfl
theorem wd_119 : Cond.fieldLink "SuitByTailors" 120 "SuitByTailors$Pins" "size" "I" ∈ wG := wG_of (List.mem_append_right _ (List.mem_append_left _ (List.mem_of_getElem? (i := 119) rfl))) rfl
theorem wd_120 : Cond.laysFinal "SuitByTailors$Pins" "SuitByTailors$Pins" "seamOf" "[I" ∈ wG := wG_of (List.mem_append_right _ (List.mem_append_left _ (List.mem_of_getElem? (i := 120) rfl))) rfl
theorem wd_122 : Cond.laysFinal "SuitByTailors$Pins" "SuitByTailors$Pins" "tailorOf" "[I" ∈ wG := wG_of (List.mem_append_right _ (List.mem_append_left _ (List.mem_of_getElem? (i := 122) rfl))) rfl
theorem wd_124 : Cond.lays "SuitByTailors$Pins" "SuitByTailors$Pins" "size" "I" ∈ wG := wG_of (List.mem_append_right _ (List.mem_append_left _ (List.mem_of_getElem? (i := 124) rfl))) rfl
theorem wd_127 : Cond.classLink "SuitByTailors" 49 "SuitByTailors$OrderSearch" ∈ wG := wG_of (List.mem_append_right _ (List.mem_append_left _ (List.mem_of_getElem? (i := 127) rfl))) rfl
theorem wd_128 : Cond.instantiable "SuitByTailors$OrderSearch" 6 ∈ wG := wG_of (List.mem_append_right _ (List.mem_append_left _ (List.mem_of_getElem? (i := 128) rfl))) rfl
theorem wd_130 : Cond.instanceMethod ⟨"SuitByTailors$OrderSearch", "<init>", "()V"⟩ ∈ wG := wG_of (List.mem_append_right _ (List.mem_append_left _ (List.mem_of_getElem? (i := 130) rfl))) rfl
theorem wd_131 : Cond.code ⟨"SuitByTailors$OrderSearch", "<init>", "()V"⟩ prog_5_method_1_code 1 none ∈ wG := wG_of (List.mem_append_right _ (List.mem_append_left _ (List.mem_of_getElem? (i := 131) rfl))) rfl
theorem wd_132 : Cond.methodLink "SuitByTailors$OrderSearch" 3 ⟨"java/lang/Object", "<init>", "()V"⟩ ∈ wG := wG_of (List.mem_append_right _ (List.mem_append_left _ (List.mem_of_getElem? (i := 132) rfl))) rfl
theorem wd_133 : Cond.fieldLink "SuitByTailors$OrderSearch" 9 "SuitByTailors$OrderSearch" "best" "[I" ∈ wG := wG_of (List.mem_append_right _ (List.mem_append_left _ (List.mem_of_getElem? (i := 133) rfl))) rfl
theorem wd_134 : Cond.fieldLink "SuitByTailors" 192 "SuitByTailors$OrderSearch" "best" "[I" ∈ wG := wG_of (List.mem_append_right _ (List.mem_append_left _ (List.mem_of_getElem? (i := 134) rfl))) rfl
theorem wd_135 : Cond.fieldLink "SuitByTailors$OrderSearch" 15 "SuitByTailors$OrderSearch" "known" "Z" ∈ wG := wG_of (List.mem_append_right _ (List.mem_append_left _ (List.mem_of_getElem? (i := 135) rfl))) rfl
theorem wd_136 : Cond.fieldLink "SuitByTailors" 121 "SuitByTailors$OrderSearch" "known" "Z" ∈ wG := wG_of (List.mem_append_right _ (List.mem_append_left _ (List.mem_of_getElem? (i := 136) rfl))) rfl
theorem wd_137 : Cond.fieldLink "SuitByTailors$OrderSearch" 19 "SuitByTailors$OrderSearch" "leastSum" "I" ∈ wG := wG_of (List.mem_append_right _ (List.mem_append_left _ (List.mem_of_getElem? (i := 137) rfl))) rfl
theorem wd_138 : Cond.fieldLink "SuitByTailors" 189 "SuitByTailors$OrderSearch" "leastSum" "I" ∈ wG := wG_of (List.mem_append_right _ (List.mem_append_left _ (List.mem_of_getElem? (i := 138) rfl))) rfl
theorem wd_139 : Cond.fieldLink "SuitByTailors$OrderSearch" 23 "SuitByTailors$OrderSearch" "tried" "[I" ∈ wG := wG_of (List.mem_append_right _ (List.mem_append_left _ (List.mem_of_getElem? (i := 139) rfl))) rfl
theorem wd_140 : Cond.fieldLink "SuitByTailors$OrderSearch" 26 "SuitByTailors$OrderSearch" "row" "[I" ∈ wG := wG_of (List.mem_append_right _ (List.mem_append_left _ (List.mem_of_getElem? (i := 140) rfl))) rfl
theorem wd_141 : Cond.fieldLink "SuitByTailors$OrderSearch" 29 "SuitByTailors$OrderSearch" "placed" "I" ∈ wG := wG_of (List.mem_append_right _ (List.mem_append_left _ (List.mem_of_getElem? (i := 141) rfl))) rfl
theorem wd_142 : Cond.laysFinal "SuitByTailors$OrderSearch" "SuitByTailors$OrderSearch" "best" "[I" ∈ wG := wG_of (List.mem_append_right _ (List.mem_append_left _ (List.mem_of_getElem? (i := 142) rfl))) rfl
theorem wd_144 : Cond.lays "SuitByTailors$OrderSearch" "SuitByTailors$OrderSearch" "known" "Z" ∈ wG := wG_of (List.mem_append_right _ (List.mem_append_left _ (List.mem_of_getElem? (i := 144) rfl))) rfl
theorem wd_146 : Cond.lays "SuitByTailors$OrderSearch" "SuitByTailors$OrderSearch" "leastSum" "I" ∈ wG := wG_of (List.mem_append_right _ (List.mem_append_left _ (List.mem_of_getElem? (i := 146) rfl))) rfl
theorem wd_148 : Cond.laysFinal "SuitByTailors$OrderSearch" "SuitByTailors$OrderSearch" "tried" "[I" ∈ wG := wG_of (List.mem_append_right _ (List.mem_append_left _ (List.mem_of_getElem? (i := 148) rfl))) rfl
theorem wd_150 : Cond.laysFinal "SuitByTailors$OrderSearch" "SuitByTailors$OrderSearch" "row" "[I" ∈ wG := wG_of (List.mem_append_right _ (List.mem_append_left _ (List.mem_of_getElem? (i := 150) rfl))) rfl
theorem wd_152 : Cond.lays "SuitByTailors$OrderSearch" "SuitByTailors$OrderSearch" "placed" "I" ∈ wG := wG_of (List.mem_append_right _ (List.mem_append_left _ (List.mem_of_getElem? (i := 152) rfl))) rfl
theorem wd_155 : Cond.classLink "SuitByTailors" 56 "SuitByTailors$BoltSearch" ∈ wG := wG_of (List.mem_append_right _ (List.mem_append_left _ (List.mem_of_getElem? (i := 155) rfl))) rfl
theorem wd_156 : Cond.instantiable "SuitByTailors$BoltSearch" 3 ∈ wG := wG_of (List.mem_append_right _ (List.mem_append_left _ (List.mem_of_getElem? (i := 156) rfl))) rfl
theorem wd_158 : Cond.instanceMethod ⟨"SuitByTailors$BoltSearch", "<init>", "()V"⟩ ∈ wG := wG_of (List.mem_append_right _ (List.mem_append_left _ (List.mem_of_getElem? (i := 158) rfl))) rfl
theorem wd_159 : Cond.code ⟨"SuitByTailors$BoltSearch", "<init>", "()V"⟩ prog_2_method_1_code 1 none ∈ wG := wG_of (List.mem_append_right _ (List.mem_append_left _ (List.mem_of_getElem? (i := 159) rfl))) rfl
theorem wd_160 : Cond.methodLink "SuitByTailors$BoltSearch" 3 ⟨"java/lang/Object", "<init>", "()V"⟩ ∈ wG := wG_of (List.mem_append_right _ (List.mem_append_left _ (List.mem_of_getElem? (i := 160) rfl))) rfl
theorem wd_161 : Cond.fieldLink "SuitByTailors$BoltSearch" 9 "SuitByTailors$BoltSearch" "boltOf" "[I" ∈ wG := wG_of (List.mem_append_right _ (List.mem_append_left _ (List.mem_of_getElem? (i := 161) rfl))) rfl
theorem wd_162 : Cond.fieldLink "SuitByTailors" 222 "SuitByTailors$BoltSearch" "boltOf" "[I" ∈ wG := wG_of (List.mem_append_right _ (List.mem_append_left _ (List.mem_of_getElem? (i := 162) rfl))) rfl
theorem wd_163 : Cond.fieldLink "SuitByTailors$BoltSearch" 15 "SuitByTailors$BoltSearch" "filled" "[I" ∈ wG := wG_of (List.mem_append_right _ (List.mem_append_left _ (List.mem_of_getElem? (i := 163) rfl))) rfl
theorem wd_164 : Cond.fieldLink "SuitByTailors$BoltSearch" 18 "SuitByTailors$BoltSearch" "most" "I" ∈ wG := wG_of (List.mem_append_right _ (List.mem_append_left _ (List.mem_of_getElem? (i := 164) rfl))) rfl
theorem wd_165 : Cond.laysFinal "SuitByTailors$BoltSearch" "SuitByTailors$BoltSearch" "boltOf" "[I" ∈ wG := wG_of (List.mem_append_right _ (List.mem_append_left _ (List.mem_of_getElem? (i := 165) rfl))) rfl
theorem wd_167 : Cond.laysFinal "SuitByTailors$BoltSearch" "SuitByTailors$BoltSearch" "filled" "[I" ∈ wG := wG_of (List.mem_append_right _ (List.mem_append_left _ (List.mem_of_getElem? (i := 167) rfl))) rfl
theorem wd_169 : Cond.lays "SuitByTailors$BoltSearch" "SuitByTailors$BoltSearch" "most" "I" ∈ wG := wG_of (List.mem_append_right _ (List.mem_append_left _ (List.mem_of_getElem? (i := 169) rfl))) rfl
theorem wd_172 : Cond.classLink "SuitByTailors" 76 "SuitByTailors$Plan" ∈ wG := wG_of (List.mem_append_right _ (List.mem_append_left _ (List.mem_of_getElem? (i := 172) rfl))) rfl
theorem wd_173 : Cond.instantiable "SuitByTailors$Plan" 12 ∈ wG := wG_of (List.mem_append_right _ (List.mem_append_left _ (List.mem_of_getElem? (i := 173) rfl))) rfl
theorem wd_175 : Cond.instanceMethod ⟨"SuitByTailors$Plan", "<init>", "()V"⟩ ∈ wG := wG_of (List.mem_append_right _ (List.mem_append_left _ (List.mem_of_getElem? (i := 175) rfl))) rfl
theorem wd_176 : Cond.code ⟨"SuitByTailors$Plan", "<init>", "()V"⟩ prog_7_method_1_code 1 none ∈ wG := wG_of (List.mem_append_right _ (List.mem_append_left _ (List.mem_of_getElem? (i := 176) rfl))) rfl
theorem wd_177 : Cond.methodLink "SuitByTailors$Plan" 3 ⟨"java/lang/Object", "<init>", "()V"⟩ ∈ wG := wG_of (List.mem_append_right _ (List.mem_append_left _ (List.mem_of_getElem? (i := 177) rfl))) rfl
theorem wd_178 : Cond.fieldLink "SuitByTailors$Plan" 9 "SuitByTailors$Plan" "inches" "[I" ∈ wG := wG_of (List.mem_append_right _ (List.mem_append_left _ (List.mem_of_getElem? (i := 178) rfl))) rfl
theorem wd_179 : Cond.fieldLink "SuitByTailors$Plan" 15 "SuitByTailors$Plan" "tailorOf" "[I" ∈ wG := wG_of (List.mem_append_right _ (List.mem_append_left _ (List.mem_of_getElem? (i := 179) rfl))) rfl
theorem wd_180 : Cond.fieldLink "SuitByTailors" 129 "SuitByTailors$Plan" "tailorOf" "[I" ∈ wG := wG_of (List.mem_append_right _ (List.mem_append_left _ (List.mem_of_getElem? (i := 180) rfl))) rfl
theorem wd_181 : Cond.fieldLink "SuitByTailors$Plan" 18 "SuitByTailors$Plan" "lengthOf" "[I" ∈ wG := wG_of (List.mem_append_right _ (List.mem_append_left _ (List.mem_of_getElem? (i := 181) rfl))) rfl
theorem wd_182 : Cond.fieldLink "SuitByTailors" 132 "SuitByTailors$Plan" "lengthOf" "[I" ∈ wG := wG_of (List.mem_append_right _ (List.mem_append_left _ (List.mem_of_getElem? (i := 182) rfl))) rfl
theorem wd_183 : Cond.fieldLink "SuitByTailors$Plan" 21 "SuitByTailors$Plan" "bribeFor" "[I" ∈ wG := wG_of (List.mem_append_right _ (List.mem_append_left _ (List.mem_of_getElem? (i := 183) rfl))) rfl
theorem wd_184 : Cond.fieldLink "SuitByTailors" 135 "SuitByTailors$Plan" "bribeFor" "[I" ∈ wG := wG_of (List.mem_append_right _ (List.mem_append_left _ (List.mem_of_getElem? (i := 184) rfl))) rfl
theorem wd_185 : Cond.fieldLink "SuitByTailors$Plan" 24 "SuitByTailors$Plan" "firstOf" "[I" ∈ wG := wG_of (List.mem_append_right _ (List.mem_append_left _ (List.mem_of_getElem? (i := 185) rfl))) rfl
theorem wd_186 : Cond.fieldLink "SuitByTailors$OrderSearch" 70 "SuitByTailors$Plan" "firstOf" "[I" ∈ wG := wG_of (List.mem_append_right _ (List.mem_append_left _ (List.mem_of_getElem? (i := 186) rfl))) rfl
theorem wd_187 : Cond.fieldLink "SuitByTailors" 230 "SuitByTailors$Plan" "firstOf" "[I" ∈ wG := wG_of (List.mem_append_right _ (List.mem_append_left _ (List.mem_of_getElem? (i := 187) rfl))) rfl
theorem wd_188 : Cond.fieldLink "SuitByTailors$Plan" 27 "SuitByTailors$Plan" "secondOf" "[I" ∈ wG := wG_of (List.mem_append_right _ (List.mem_append_left _ (List.mem_of_getElem? (i := 188) rfl))) rfl
theorem wd_189 : Cond.fieldLink "SuitByTailors$OrderSearch" 73 "SuitByTailors$Plan" "secondOf" "[I" ∈ wG := wG_of (List.mem_append_right _ (List.mem_append_left _ (List.mem_of_getElem? (i := 189) rfl))) rfl
theorem wd_190 : Cond.fieldLink "SuitByTailors" 233 "SuitByTailors$Plan" "secondOf" "[I" ∈ wG := wG_of (List.mem_append_right _ (List.mem_append_left _ (List.mem_of_getElem? (i := 190) rfl))) rfl
theorem wd_191 : Cond.fieldLink "SuitByTailors$Plan" 30 "SuitByTailors$Plan" "tailors" "I" ∈ wG := wG_of (List.mem_append_right _ (List.mem_append_left _ (List.mem_of_getElem? (i := 191) rfl))) rfl
theorem wd_192 : Cond.fieldLink "SuitByTailors" 245 "SuitByTailors$Plan" "tailors" "I" ∈ wG := wG_of (List.mem_append_right _ (List.mem_append_left _ (List.mem_of_getElem? (i := 192) rfl))) rfl
theorem wd_193 : Cond.fieldLink "SuitByTailors$BoltSearch" 22 "SuitByTailors$Plan" "parts" "I" ∈ wG := wG_of (List.mem_append_right _ (List.mem_append_left _ (List.mem_of_getElem? (i := 193) rfl))) rfl
theorem wd_194 : Cond.fieldLink "SuitByTailors$Plan" 34 "SuitByTailors$Plan" "parts" "I" ∈ wG := wG_of (List.mem_append_right _ (List.mem_append_left _ (List.mem_of_getElem? (i := 194) rfl))) rfl
theorem wd_195 : Cond.fieldLink "SuitByTailors$OrderSearch" 39 "SuitByTailors$Plan" "parts" "I" ∈ wG := wG_of (List.mem_append_right _ (List.mem_append_left _ (List.mem_of_getElem? (i := 195) rfl))) rfl
theorem wd_196 : Cond.fieldLink "SuitByTailors" 108 "SuitByTailors$Plan" "parts" "I" ∈ wG := wG_of (List.mem_append_right _ (List.mem_append_left _ (List.mem_of_getElem? (i := 196) rfl))) rfl
theorem wd_197 : Cond.fieldLink "SuitByTailors$Plan" 37 "SuitByTailors$Plan" "seams" "I" ∈ wG := wG_of (List.mem_append_right _ (List.mem_append_left _ (List.mem_of_getElem? (i := 197) rfl))) rfl
theorem wd_198 : Cond.fieldLink "SuitByTailors$OrderSearch" 67 "SuitByTailors$Plan" "seams" "I" ∈ wG := wG_of (List.mem_append_right _ (List.mem_append_left _ (List.mem_of_getElem? (i := 198) rfl))) rfl
theorem wd_199 : Cond.fieldLink "SuitByTailors" 248 "SuitByTailors$Plan" "seams" "I" ∈ wG := wG_of (List.mem_append_right _ (List.mem_append_left _ (List.mem_of_getElem? (i := 199) rfl))) rfl
theorem wd_200 : Cond.fieldLink "SuitByTailors$Plan" 40 "SuitByTailors$Plan" "widestGap" "I" ∈ wG := wG_of (List.mem_append_right _ (List.mem_append_left _ (List.mem_of_getElem? (i := 200) rfl))) rfl
theorem wd_201 : Cond.fieldLink "SuitByTailors$Plan" 43 "SuitByTailors$Plan" "boy" "I" ∈ wG := wG_of (List.mem_append_right _ (List.mem_append_left _ (List.mem_of_getElem? (i := 201) rfl))) rfl
theorem wd_202 : Cond.fieldLink "SuitByTailors$OrderSearch" 52 "SuitByTailors$Plan" "boy" "I" ∈ wG := wG_of (List.mem_append_right _ (List.mem_append_left _ (List.mem_of_getElem? (i := 202) rfl))) rfl
theorem wd_203 : Cond.fieldLink "SuitByTailors" 251 "SuitByTailors$Plan" "boy" "I" ∈ wG := wG_of (List.mem_append_right _ (List.mem_append_left _ (List.mem_of_getElem? (i := 203) rfl))) rfl
theorem wd_204 : Cond.fieldLink "SuitByTailors$Plan" 46 "SuitByTailors$Plan" "boltLength" "I" ∈ wG := wG_of (List.mem_append_right _ (List.mem_append_left _ (List.mem_of_getElem? (i := 204) rfl))) rfl
theorem wd_205 : Cond.fieldLink "SuitByTailors$BoltSearch" 34 "SuitByTailors$Plan" "boltLength" "I" ∈ wG := wG_of (List.mem_append_right _ (List.mem_append_left _ (List.mem_of_getElem? (i := 205) rfl))) rfl
theorem wd_206 : Cond.laysFinal "SuitByTailors$Plan" "SuitByTailors$Plan" "inches" "[I" ∈ wG := wG_of (List.mem_append_right _ (List.mem_append_left _ (List.mem_of_getElem? (i := 206) rfl))) rfl
theorem wd_208 : Cond.laysFinal "SuitByTailors$Plan" "SuitByTailors$Plan" "tailorOf" "[I" ∈ wG := wG_of (List.mem_append_right _ (List.mem_append_left _ (List.mem_of_getElem? (i := 208) rfl))) rfl
theorem wd_210 : Cond.laysFinal "SuitByTailors$Plan" "SuitByTailors$Plan" "lengthOf" "[I" ∈ wG := wG_of (List.mem_append_right _ (List.mem_append_left _ (List.mem_of_getElem? (i := 210) rfl))) rfl
theorem wd_212 : Cond.laysFinal "SuitByTailors$Plan" "SuitByTailors$Plan" "bribeFor" "[I" ∈ wG := wG_of (List.mem_append_right _ (List.mem_append_left _ (List.mem_of_getElem? (i := 212) rfl))) rfl
theorem wd_214 : Cond.laysFinal "SuitByTailors$Plan" "SuitByTailors$Plan" "firstOf" "[I" ∈ wG := wG_of (List.mem_append_right _ (List.mem_append_left _ (List.mem_of_getElem? (i := 214) rfl))) rfl
theorem wd_216 : Cond.laysFinal "SuitByTailors$Plan" "SuitByTailors$Plan" "secondOf" "[I" ∈ wG := wG_of (List.mem_append_right _ (List.mem_append_left _ (List.mem_of_getElem? (i := 216) rfl))) rfl
theorem wd_218 : Cond.lays "SuitByTailors$Plan" "SuitByTailors$Plan" "tailors" "I" ∈ wG := wG_of (List.mem_append_right _ (List.mem_append_left _ (List.mem_of_getElem? (i := 218) rfl))) rfl
theorem wd_220 : Cond.lays "SuitByTailors$Plan" "SuitByTailors$Plan" "parts" "I" ∈ wG := wG_of (List.mem_append_right _ (List.mem_append_left _ (List.mem_of_getElem? (i := 220) rfl))) rfl
theorem wd_222 : Cond.lays "SuitByTailors$Plan" "SuitByTailors$Plan" "seams" "I" ∈ wG := wG_of (List.mem_append_right _ (List.mem_append_left _ (List.mem_of_getElem? (i := 222) rfl))) rfl
theorem wd_224 : Cond.lays "SuitByTailors$Plan" "SuitByTailors$Plan" "widestGap" "I" ∈ wG := wG_of (List.mem_append_right _ (List.mem_append_left _ (List.mem_of_getElem? (i := 224) rfl))) rfl
theorem wd_226 : Cond.lays "SuitByTailors$Plan" "SuitByTailors$Plan" "boy" "I" ∈ wG := wG_of (List.mem_append_right _ (List.mem_append_left _ (List.mem_of_getElem? (i := 226) rfl))) rfl
theorem wd_228 : Cond.lays "SuitByTailors$Plan" "SuitByTailors$Plan" "boltLength" "I" ∈ wG := wG_of (List.mem_append_right _ (List.mem_append_left _ (List.mem_of_getElem? (i := 228) rfl))) rfl
theorem wd_232 : Cond.methodLink "SuitByTailors" 88 ⟨"java/lang/String", "length", "()I"⟩ ∈ wG := wG_of (List.mem_append_right _ (List.mem_append_left _ (List.mem_of_getElem? (i := 232) rfl))) rfl
theorem wd_233 : Cond.instanceMethod ⟨"java/lang/String", "length", "()I"⟩ ∈ wG := wG_of (List.mem_append_right _ (List.mem_append_left _ (List.mem_of_getElem? (i := 233) rfl))) rfl
theorem wd_234 : Cond.selects "java/lang/String" ⟨"java/lang/String", "length", "()I"⟩ ⟨"java/lang/String", "length", "()I"⟩ ∈ wG := wG_of (List.mem_append_right _ (List.mem_append_left _ (List.mem_of_getElem? (i := 234) rfl))) rfl
theorem wd_235 : Cond.code ⟨"java/lang/String", "length", "()I"⟩ prog_13_method_54_code 1 (some .int) ∈ wG := wG_of (List.mem_append_right _ (List.mem_append_left _ (List.mem_of_getElem? (i := 235) rfl))) rfl
theorem wd_236 : Cond.methodLink "java/lang/String" 335 ⟨"java/lang/String", "coder", "()B"⟩ ∈ wG := wG_of (List.mem_append_right _ (List.mem_append_left _ (List.mem_of_getElem? (i := 236) rfl))) rfl
theorem wd_237 : Cond.instanceMethod ⟨"java/lang/String", "coder", "()B"⟩ ∈ wG := wG_of (List.mem_append_right _ (List.mem_append_left _ (List.mem_of_getElem? (i := 237) rfl))) rfl
theorem wd_238 : Cond.selects "java/lang/String" ⟨"java/lang/String", "coder", "()B"⟩ ⟨"java/lang/String", "coder", "()B"⟩ ∈ wG := wG_of (List.mem_append_right _ (List.mem_append_left _ (List.mem_of_getElem? (i := 238) rfl))) rfl
theorem wd_239 : Cond.code ⟨"java/lang/String", "coder", "()B"⟩ prog_13_method_152_code 1 (some .byte) ∈ wG := wG_of (List.mem_append_right _ (List.mem_append_left _ (List.mem_of_getElem? (i := 239) rfl))) rfl
theorem wd_240 : Cond.fieldLink "java/lang/String" 38 "java/lang/String" "COMPACT_STRINGS" "Z" ∈ wG := wG_of (List.mem_append_right _ (List.mem_append_right _ (List.mem_append_left _ (List.mem_of_getElem? (i := 0) rfl)))) rfl
theorem wd_242 : Cond.methodLink "SuitByTailors" 94 ⟨"java/lang/String", "charAt", "(I)C"⟩ ∈ wG := wG_of (List.mem_append_right _ (List.mem_append_right _ (List.mem_append_left _ (List.mem_of_getElem? (i := 2) rfl)))) rfl
theorem wd_243 : Cond.instanceMethod ⟨"java/lang/String", "charAt", "(I)C"⟩ ∈ wG := wG_of (List.mem_append_right _ (List.mem_append_right _ (List.mem_append_left _ (List.mem_of_getElem? (i := 3) rfl)))) rfl
theorem wd_244 : Cond.selects "java/lang/String" ⟨"java/lang/String", "charAt", "(I)C"⟩ ⟨"java/lang/String", "charAt", "(I)C"⟩ ∈ wG := wG_of (List.mem_append_right _ (List.mem_append_right _ (List.mem_append_left _ (List.mem_of_getElem? (i := 4) rfl)))) rfl
theorem wd_245 : Cond.code ⟨"java/lang/String", "charAt", "(I)C"⟩ prog_13_method_56_code 2 (some .char) ∈ wG := wG_of (List.mem_append_right _ (List.mem_append_right _ (List.mem_append_left _ (List.mem_of_getElem? (i := 5) rfl)))) rfl
theorem wd_246 : Cond.methodLink "java/lang/String" 492 ⟨"java/lang/String", "isLatin1", "()Z"⟩ ∈ wG := wG_of (List.mem_append_right _ (List.mem_append_right _ (List.mem_append_left _ (List.mem_of_getElem? (i := 6) rfl)))) rfl
theorem wd_247 : Cond.instanceMethod ⟨"java/lang/String", "isLatin1", "()Z"⟩ ∈ wG := wG_of (List.mem_append_right _ (List.mem_append_right _ (List.mem_append_left _ (List.mem_of_getElem? (i := 7) rfl)))) rfl
theorem wd_248 : Cond.selects "java/lang/String" ⟨"java/lang/String", "isLatin1", "()Z"⟩ ⟨"java/lang/String", "isLatin1", "()Z"⟩ ∈ wG := wG_of (List.mem_append_right _ (List.mem_append_right _ (List.mem_append_left _ (List.mem_of_getElem? (i := 8) rfl)))) rfl
theorem wd_249 : Cond.code ⟨"java/lang/String", "isLatin1", "()Z"⟩ prog_13_method_154_code 1 (some .boolean) ∈ wG := wG_of (List.mem_append_right _ (List.mem_append_right _ (List.mem_append_left _ (List.mem_of_getElem? (i := 9) rfl)))) rfl
theorem wd_250 : Cond.methodLink "java/lang/String" 495 ⟨"java/lang/StringLatin1", "charAt", "([BI)C"⟩ ∈ wG := wG_of (List.mem_append_right _ (List.mem_append_right _ (List.mem_append_left _ (List.mem_of_getElem? (i := 10) rfl)))) rfl
theorem wd_251 : Cond.static ⟨"java/lang/StringLatin1", "charAt", "([BI)C"⟩ ∈ wG := wG_of (List.mem_append_right _ (List.mem_append_right _ (List.mem_append_left _ (List.mem_of_getElem? (i := 11) rfl)))) rfl
theorem wd_252 : Cond.code ⟨"java/lang/StringLatin1", "charAt", "([BI)C"⟩ prog_14_method_2_code 2 (some .char) ∈ wG := wG_of (List.mem_append_right _ (List.mem_append_right _ (List.mem_append_left _ (List.mem_of_getElem? (i := 12) rfl)))) rfl
theorem wd_253 : Cond.methodLink "java/lang/StringLatin1" 9 ⟨"java/lang/String", "checkIndex", "(II)V"⟩ ∈ wG := wG_of (List.mem_append_right _ (List.mem_append_right _ (List.mem_append_left _ (List.mem_of_getElem? (i := 13) rfl)))) rfl
theorem wd_254 : Cond.static ⟨"java/lang/String", "checkIndex", "(II)V"⟩ ∈ wG := wG_of (List.mem_append_right _ (List.mem_append_right _ (List.mem_append_left _ (List.mem_of_getElem? (i := 14) rfl)))) rfl
theorem wd_255 : Cond.code ⟨"java/lang/String", "checkIndex", "(II)V"⟩ prog_13_method_155_code 2 none ∈ wG := wG_of (List.mem_append_right _ (List.mem_append_right _ (List.mem_append_left _ (List.mem_of_getElem? (i := 15) rfl)))) rfl
theorem wd_256 : Cond.fieldLink "java/lang/String" 1053 "jdk/internal/util/Preconditions" "SIOOBE_FORMATTER" "Ljava/util/function/BiFunction;" ∈ wG := wG_of (List.mem_append_right _ (List.mem_append_right _ (List.mem_append_left _ (List.mem_of_getElem? (i := 16) rfl)))) rfl
theorem wd_258 : Cond.methodLink "java/lang/String" 1059 ⟨"jdk/internal/util/Preconditions", "checkIndex", "(IILjava/util/function/BiFunction;)I"⟩ ∈ wG := wG_of (List.mem_append_right _ (List.mem_append_right _ (List.mem_append_left _ (List.mem_of_getElem? (i := 18) rfl)))) rfl
theorem wd_259 : Cond.static ⟨"jdk/internal/util/Preconditions", "checkIndex", "(IILjava/util/function/BiFunction;)I"⟩ ∈ wG := wG_of (List.mem_append_right _ (List.mem_append_right _ (List.mem_append_left _ (List.mem_of_getElem? (i := 19) rfl)))) rfl
theorem wd_260 : Cond.code ⟨"jdk/internal/util/Preconditions", "checkIndex", "(IILjava/util/function/BiFunction;)I"⟩ prog_16_method_11_code 3 (some .int) ∈ wG := wG_of (List.mem_append_right _ (List.mem_append_right _ (List.mem_append_left _ (List.mem_of_getElem? (i := 20) rfl)))) rfl
theorem wd_261 : Cond.methodLink "java/lang/String" 498 ⟨"java/lang/StringUTF16", "charAt", "([BI)C"⟩ ∈ wG := wG_of (List.mem_append_right _ (List.mem_append_right _ (List.mem_append_left _ (List.mem_of_getElem? (i := 21) rfl)))) rfl
theorem wd_262 : Cond.static ⟨"java/lang/StringUTF16", "charAt", "([BI)C"⟩ ∈ wG := wG_of (List.mem_append_right _ (List.mem_append_right _ (List.mem_append_left _ (List.mem_of_getElem? (i := 22) rfl)))) rfl
theorem wd_263 : Cond.code ⟨"java/lang/StringUTF16", "charAt", "([BI)C"⟩ prog_15_method_83_code 2 (some .char) ∈ wG := wG_of (List.mem_append_right _ (List.mem_append_right _ (List.mem_append_left _ (List.mem_of_getElem? (i := 23) rfl)))) rfl
theorem wd_264 : Cond.methodLink "java/lang/StringUTF16" 67 ⟨"java/lang/StringUTF16", "checkIndex", "(I[B)V"⟩ ∈ wG := wG_of (List.mem_append_right _ (List.mem_append_right _ (List.mem_append_left _ (List.mem_of_getElem? (i := 24) rfl)))) rfl
theorem wd_265 : Cond.static ⟨"java/lang/StringUTF16", "checkIndex", "(I[B)V"⟩ ∈ wG := wG_of (List.mem_append_right _ (List.mem_append_right _ (List.mem_append_left _ (List.mem_of_getElem? (i := 25) rfl)))) rfl
theorem wd_266 : Cond.code ⟨"java/lang/StringUTF16", "checkIndex", "(I[B)V"⟩ prog_15_method_91_code 2 none ∈ wG := wG_of (List.mem_append_right _ (List.mem_append_right _ (List.mem_append_left _ (List.mem_of_getElem? (i := 26) rfl)))) rfl
theorem wd_267 : Cond.methodLink "java/lang/StringUTF16" 48 ⟨"java/lang/StringUTF16", "length", "([B)I"⟩ ∈ wG := wG_of (List.mem_append_right _ (List.mem_append_right _ (List.mem_append_left _ (List.mem_of_getElem? (i := 27) rfl)))) rfl
theorem wd_268 : Cond.static ⟨"java/lang/StringUTF16", "length", "([B)I"⟩ ∈ wG := wG_of (List.mem_append_right _ (List.mem_append_right _ (List.mem_append_left _ (List.mem_of_getElem? (i := 28) rfl)))) rfl
theorem wd_269 : Cond.code ⟨"java/lang/StringUTF16", "length", "([B)I"⟩ prog_15_method_6_code 1 (some .int) ∈ wG := wG_of (List.mem_append_right _ (List.mem_append_right _ (List.mem_append_left _ (List.mem_of_getElem? (i := 29) rfl)))) rfl
theorem wd_270 : Cond.methodLink "java/lang/StringUTF16" 414 ⟨"java/lang/String", "checkIndex", "(II)V"⟩ ∈ wG := wG_of (List.mem_append_right _ (List.mem_append_right _ (List.mem_append_left _ (List.mem_of_getElem? (i := 30) rfl)))) rfl
theorem wd_271 : Cond.methodLink "java/lang/StringUTF16" 71 ⟨"java/lang/StringUTF16", "getChar", "([BI)C"⟩ ∈ wG := wG_of (List.mem_append_right _ (List.mem_append_right _ (List.mem_append_left _ (List.mem_of_getElem? (i := 31) rfl)))) rfl
theorem wd_272 : Cond.static ⟨"java/lang/StringUTF16", "getChar", "([BI)C"⟩ ∈ wG := wG_of (List.mem_append_right _ (List.mem_append_right _ (List.mem_append_left _ (List.mem_of_getElem? (i := 32) rfl)))) rfl
theorem wd_273 : Cond.code ⟨"java/lang/StringUTF16", "getChar", "([BI)C"⟩ prog_15_method_5_code 2 (some .char) ∈ wG := wG_of (List.mem_append_right _ (List.mem_append_right _ (List.mem_append_left _ (List.mem_of_getElem? (i := 33) rfl)))) rfl
theorem wd_274 : Cond.fieldLink "java/lang/StringUTF16" 44 "java/lang/StringUTF16" "$assertionsDisabled" "Z" ∈ wG := wG_of (List.mem_append_right _ (List.mem_append_right _ (List.mem_append_left _ (List.mem_of_getElem? (i := 34) rfl)))) rfl
theorem wd_276 : Cond.fieldLink "java/lang/StringUTF16" 59 "java/lang/StringUTF16" "HI_BYTE_SHIFT" "I" ∈ wG := wG_of (List.mem_append_right _ (List.mem_append_right _ (List.mem_append_left _ (List.mem_of_getElem? (i := 36) rfl)))) rfl
theorem wd_278 : Cond.fieldLink "java/lang/StringUTF16" 63 "java/lang/StringUTF16" "LO_BYTE_SHIFT" "I" ∈ wG := wG_of (List.mem_append_right _ (List.mem_append_right _ (List.mem_append_left _ (List.mem_of_getElem? (i := 38) rfl)))) rfl
theorem wd_280 : Cond.methodLink "SuitByTailors" 98 ⟨"SuitByTailors$Text", "append", "(I)V"⟩ ∈ wG := wG_of (List.mem_append_right _ (List.mem_append_right _ (List.mem_append_left _ (List.mem_of_getElem? (i := 40) rfl)))) rfl
theorem wd_281 : Cond.instanceMethod ⟨"SuitByTailors$Text", "append", "(I)V"⟩ ∈ wG := wG_of (List.mem_append_right _ (List.mem_append_right _ (List.mem_append_left _ (List.mem_of_getElem? (i := 41) rfl)))) rfl
theorem wd_282 : Cond.selects "SuitByTailors$Text" ⟨"SuitByTailors$Text", "append", "(I)V"⟩ ⟨"SuitByTailors$Text", "append", "(I)V"⟩ ∈ wG := wG_of (List.mem_append_right _ (List.mem_append_right _ (List.mem_append_left _ (List.mem_of_getElem? (i := 42) rfl)))) rfl
theorem wd_283 : Cond.code ⟨"SuitByTailors$Text", "append", "(I)V"⟩ prog_9_method_2_code 2 none ∈ wG := wG_of (List.mem_append_right _ (List.mem_append_right _ (List.mem_append_left _ (List.mem_of_getElem? (i := 43) rfl)))) rfl
theorem wd_284 : Cond.methodLink "SuitByTailors" 101 ⟨"SuitByTailors$Text", "readInto", "(LSuitByTailors$Plan;)I"⟩ ∈ wG := wG_of (List.mem_append_right _ (List.mem_append_right _ (List.mem_append_left _ (List.mem_of_getElem? (i := 44) rfl)))) rfl
theorem wd_285 : Cond.instanceMethod ⟨"SuitByTailors$Text", "readInto", "(LSuitByTailors$Plan;)I"⟩ ∈ wG := wG_of (List.mem_append_right _ (List.mem_append_right _ (List.mem_append_left _ (List.mem_of_getElem? (i := 45) rfl)))) rfl
theorem wd_286 : Cond.selects "SuitByTailors$Text" ⟨"SuitByTailors$Text", "readInto", "(LSuitByTailors$Plan;)I"⟩ ⟨"SuitByTailors$Text", "readInto", "(LSuitByTailors$Plan;)I"⟩ ∈ wG := wG_of (List.mem_append_right _ (List.mem_append_right _ (List.mem_append_left _ (List.mem_of_getElem? (i := 46) rfl)))) rfl
theorem wd_287 : Cond.code ⟨"SuitByTailors$Text", "readInto", "(LSuitByTailors$Plan;)I"⟩ prog_9_method_3_code 6 (some .int) ∈ wG := wG_of (List.mem_append_right _ (List.mem_append_right _ (List.mem_append_left _ (List.mem_of_getElem? (i := 47) rfl)))) rfl
theorem wd_288 : Cond.methodLink "SuitByTailors$Text" 23 ⟨"SuitByTailors$Plan", "clear", "()V"⟩ ∈ wG := wG_of (List.mem_append_right _ (List.mem_append_right _ (List.mem_append_left _ (List.mem_of_getElem? (i := 48) rfl)))) rfl
theorem wd_289 : Cond.instanceMethod ⟨"SuitByTailors$Plan", "clear", "()V"⟩ ∈ wG := wG_of (List.mem_append_right _ (List.mem_append_right _ (List.mem_append_left _ (List.mem_of_getElem? (i := 49) rfl)))) rfl
theorem wd_290 : Cond.selects "SuitByTailors$Plan" ⟨"SuitByTailors$Plan", "clear", "()V"⟩ ⟨"SuitByTailors$Plan", "clear", "()V"⟩ ∈ wG := wG_of (List.mem_append_right _ (List.mem_append_right _ (List.mem_append_left _ (List.mem_of_getElem? (i := 50) rfl)))) rfl
theorem wd_291 : Cond.code ⟨"SuitByTailors$Plan", "clear", "()V"⟩ prog_7_method_2_code 1 none ∈ wG := wG_of (List.mem_append_right _ (List.mem_append_right _ (List.mem_append_left _ (List.mem_of_getElem? (i := 51) rfl)))) rfl
theorem wd_292 : Cond.methodLink "SuitByTailors$Text" 28 ⟨"SuitByTailors$Text", "byteAt", "(I)I"⟩ ∈ wG := wG_of (List.mem_append_right _ (List.mem_append_right _ (List.mem_append_left _ (List.mem_of_getElem? (i := 52) rfl)))) rfl
theorem wd_294 : Cond.instanceMethod ⟨"SuitByTailors$Text", "byteAt", "(I)I"⟩ ∈ wG := wG_of (List.mem_append_right _ (List.mem_append_right _ (List.mem_append_left _ (List.mem_of_getElem? (i := 54) rfl)))) rfl
theorem wd_295 : Cond.code ⟨"SuitByTailors$Text", "byteAt", "(I)I"⟩ prog_9_method_7_code 2 (some .int) ∈ wG := wG_of (List.mem_append_right _ (List.mem_append_right _ (List.mem_append_left _ (List.mem_of_getElem? (i := 55) rfl)))) rfl
theorem wd_296 : Cond.methodLink "SuitByTailors$Text" 32 ⟨"SuitByTailors$Text", "numbersBehind", "(I)I"⟩ ∈ wG := wG_of (List.mem_append_right _ (List.mem_append_right _ (List.mem_append_left _ (List.mem_of_getElem? (i := 56) rfl)))) rfl
theorem wd_297 : Cond.static ⟨"SuitByTailors$Text", "numbersBehind", "(I)I"⟩ ∈ wG := wG_of (List.mem_append_right _ (List.mem_append_right _ (List.mem_append_left _ (List.mem_of_getElem? (i := 57) rfl)))) rfl
theorem wd_298 : Cond.code ⟨"SuitByTailors$Text", "numbersBehind", "(I)I"⟩ prog_9_method_4_code 1 (some .int) ∈ wG := wG_of (List.mem_append_right _ (List.mem_append_right _ (List.mem_append_left _ (List.mem_of_getElem? (i := 58) rfl)))) rfl
theorem wd_299 : Cond.methodLink "SuitByTailors$Text" 35 ⟨"SuitByTailors$Text", "readItem", "(II)I"⟩ ∈ wG := wG_of (List.mem_append_right _ (List.mem_append_right _ (List.mem_append_left _ (List.mem_of_getElem? (i := 59) rfl)))) rfl
theorem wd_301 : Cond.instanceMethod ⟨"SuitByTailors$Text", "readItem", "(II)I"⟩ ∈ wG := wG_of (List.mem_append_right _ (List.mem_append_right _ (List.mem_append_left _ (List.mem_of_getElem? (i := 61) rfl)))) rfl
theorem wd_302 : Cond.code ⟨"SuitByTailors$Text", "readItem", "(II)I"⟩ prog_9_method_5_code 5 (some .int) ∈ wG := wG_of (List.mem_append_right _ (List.mem_append_right _ (List.mem_append_left _ (List.mem_of_getElem? (i := 62) rfl)))) rfl
theorem wd_303 : Cond.methodLink "SuitByTailors$Text" 43 ⟨"SuitByTailors$Text", "readNumber", "(II)I"⟩ ∈ wG := wG_of (List.mem_append_right _ (List.mem_append_right _ (List.mem_append_left _ (List.mem_of_getElem? (i := 63) rfl)))) rfl
theorem wd_305 : Cond.instanceMethod ⟨"SuitByTailors$Text", "readNumber", "(II)I"⟩ ∈ wG := wG_of (List.mem_append_right _ (List.mem_append_right _ (List.mem_append_left _ (List.mem_of_getElem? (i := 65) rfl)))) rfl
theorem wd_306 : Cond.code ⟨"SuitByTailors$Text", "readNumber", "(II)I"⟩ prog_9_method_6_code 5 (some .int) ∈ wG := wG_of (List.mem_append_right _ (List.mem_append_right _ (List.mem_append_left _ (List.mem_of_getElem? (i := 66) rfl)))) rfl
theorem wd_307 : Cond.methodLink "SuitByTailors$Text" 39 ⟨"SuitByTailors$Plan", "takes", "(I[I)Z"⟩ ∈ wG := wG_of (List.mem_append_right _ (List.mem_append_right _ (List.mem_append_left _ (List.mem_of_getElem? (i := 67) rfl)))) rfl
theorem wd_308 : Cond.instanceMethod ⟨"SuitByTailors$Plan", "takes", "(I[I)Z"⟩ ∈ wG := wG_of (List.mem_append_right _ (List.mem_append_right _ (List.mem_append_left _ (List.mem_of_getElem? (i := 68) rfl)))) rfl
theorem wd_309 : Cond.selects "SuitByTailors$Plan" ⟨"SuitByTailors$Plan", "takes", "(I[I)Z"⟩ ⟨"SuitByTailors$Plan", "takes", "(I[I)Z"⟩ ∈ wG := wG_of (List.mem_append_right _ (List.mem_append_right _ (List.mem_append_left _ (List.mem_of_getElem? (i := 69) rfl)))) rfl
theorem wd_310 : Cond.code ⟨"SuitByTailors$Plan", "takes", "(I[I)Z"⟩ prog_7_method_6_code 3 (some .boolean) ∈ wG := wG_of (List.mem_append_right _ (List.mem_append_right _ (List.mem_append_left _ (List.mem_of_getElem? (i := 70) rfl)))) rfl
theorem wd_311 : Cond.methodLink "SuitByTailors$Plan" 49 ⟨"SuitByTailors$Plan", "takesTailor", "(I)Z"⟩ ∈ wG := wG_of (List.mem_append_right _ (List.mem_append_right _ (List.mem_append_left _ (List.mem_of_getElem? (i := 71) rfl)))) rfl
theorem wd_313 : Cond.instanceMethod ⟨"SuitByTailors$Plan", "takesTailor", "(I)Z"⟩ ∈ wG := wG_of (List.mem_append_right _ (List.mem_append_right _ (List.mem_append_left _ (List.mem_of_getElem? (i := 73) rfl)))) rfl
theorem wd_314 : Cond.code ⟨"SuitByTailors$Plan", "takesTailor", "(I)Z"⟩ prog_7_method_7_code 2 (some .boolean) ∈ wG := wG_of (List.mem_append_right _ (List.mem_append_right _ (List.mem_append_left _ (List.mem_of_getElem? (i := 74) rfl)))) rfl
theorem wd_315 : Cond.methodLink "SuitByTailors$Plan" 53 ⟨"SuitByTailors$Plan", "takesPart", "(III)Z"⟩ ∈ wG := wG_of (List.mem_append_right _ (List.mem_append_right _ (List.mem_append_left _ (List.mem_of_getElem? (i := 75) rfl)))) rfl
theorem wd_317 : Cond.instanceMethod ⟨"SuitByTailors$Plan", "takesPart", "(III)Z"⟩ ∈ wG := wG_of (List.mem_append_right _ (List.mem_append_right _ (List.mem_append_left _ (List.mem_of_getElem? (i := 77) rfl)))) rfl
theorem wd_318 : Cond.code ⟨"SuitByTailors$Plan", "takesPart", "(III)Z"⟩ prog_7_method_8_code 4 (some .boolean) ∈ wG := wG_of (List.mem_append_right _ (List.mem_append_right _ (List.mem_append_left _ (List.mem_of_getElem? (i := 78) rfl)))) rfl
theorem wd_319 : Cond.methodLink "SuitByTailors$Plan" 70 ⟨"SuitByTailors$Plan", "hasTailor", "(I)Z"⟩ ∈ wG := wG_of (List.mem_append_right _ (List.mem_append_right _ (List.mem_append_left _ (List.mem_of_getElem? (i := 79) rfl)))) rfl
theorem wd_320 : Cond.instanceMethod ⟨"SuitByTailors$Plan", "hasTailor", "(I)Z"⟩ ∈ wG := wG_of (List.mem_append_right _ (List.mem_append_right _ (List.mem_append_left _ (List.mem_of_getElem? (i := 80) rfl)))) rfl
theorem wd_321 : Cond.selects "SuitByTailors$Plan" ⟨"SuitByTailors$Plan", "hasTailor", "(I)Z"⟩ ⟨"SuitByTailors$Plan", "hasTailor", "(I)Z"⟩ ∈ wG := wG_of (List.mem_append_right _ (List.mem_append_right _ (List.mem_append_left _ (List.mem_of_getElem? (i := 81) rfl)))) rfl
theorem wd_322 : Cond.code ⟨"SuitByTailors$Plan", "hasTailor", "(I)Z"⟩ prog_7_method_3_code 2 (some .boolean) ∈ wG := wG_of (List.mem_append_right _ (List.mem_append_right _ (List.mem_append_left _ (List.mem_of_getElem? (i := 82) rfl)))) rfl
theorem wd_323 : Cond.methodLink "SuitByTailors$Plan" 57 ⟨"SuitByTailors$Plan", "takesSeam", "(II)Z"⟩ ∈ wG := wG_of (List.mem_append_right _ (List.mem_append_right _ (List.mem_append_left _ (List.mem_of_getElem? (i := 83) rfl)))) rfl
theorem wd_325 : Cond.instanceMethod ⟨"SuitByTailors$Plan", "takesSeam", "(II)Z"⟩ ∈ wG := wG_of (List.mem_append_right _ (List.mem_append_right _ (List.mem_append_left _ (List.mem_of_getElem? (i := 85) rfl)))) rfl
theorem wd_326 : Cond.code ⟨"SuitByTailors$Plan", "takesSeam", "(II)Z"⟩ prog_7_method_9_code 3 (some .boolean) ∈ wG := wG_of (List.mem_append_right _ (List.mem_append_right _ (List.mem_append_left _ (List.mem_of_getElem? (i := 86) rfl)))) rfl
theorem wd_327 : Cond.methodLink "SuitByTailors$Plan" 73 ⟨"SuitByTailors$Plan", "hasPart", "(I)Z"⟩ ∈ wG := wG_of (List.mem_append_right _ (List.mem_append_right _ (List.mem_append_left _ (List.mem_of_getElem? (i := 87) rfl)))) rfl
theorem wd_328 : Cond.instanceMethod ⟨"SuitByTailors$Plan", "hasPart", "(I)Z"⟩ ∈ wG := wG_of (List.mem_append_right _ (List.mem_append_right _ (List.mem_append_left _ (List.mem_of_getElem? (i := 88) rfl)))) rfl
theorem wd_329 : Cond.selects "SuitByTailors$Plan" ⟨"SuitByTailors$Plan", "hasPart", "(I)Z"⟩ ⟨"SuitByTailors$Plan", "hasPart", "(I)Z"⟩ ∈ wG := wG_of (List.mem_append_right _ (List.mem_append_right _ (List.mem_append_left _ (List.mem_of_getElem? (i := 89) rfl)))) rfl
theorem wd_330 : Cond.code ⟨"SuitByTailors$Plan", "hasPart", "(I)Z"⟩ prog_7_method_4_code 2 (some .boolean) ∈ wG := wG_of (List.mem_append_right _ (List.mem_append_right _ (List.mem_append_left _ (List.mem_of_getElem? (i := 90) rfl)))) rfl
theorem wd_331 : Cond.methodLink "SuitByTailors$Plan" 61 ⟨"SuitByTailors$Plan", "takesGap", "(I)Z"⟩ ∈ wG := wG_of (List.mem_append_right _ (List.mem_append_right _ (List.mem_append_left _ (List.mem_of_getElem? (i := 91) rfl)))) rfl
theorem wd_333 : Cond.instanceMethod ⟨"SuitByTailors$Plan", "takesGap", "(I)Z"⟩ ∈ wG := wG_of (List.mem_append_right _ (List.mem_append_right _ (List.mem_append_left _ (List.mem_of_getElem? (i := 93) rfl)))) rfl
theorem wd_334 : Cond.code ⟨"SuitByTailors$Plan", "takesGap", "(I)Z"⟩ prog_7_method_10_code 2 (some .boolean) ∈ wG := wG_of (List.mem_append_right _ (List.mem_append_right _ (List.mem_append_left _ (List.mem_of_getElem? (i := 94) rfl)))) rfl
theorem wd_335 : Cond.methodLink "SuitByTailors$Plan" 64 ⟨"SuitByTailors$Plan", "takesBoy", "(I)Z"⟩ ∈ wG := wG_of (List.mem_append_right _ (List.mem_append_right _ (List.mem_append_left _ (List.mem_of_getElem? (i := 95) rfl)))) rfl
theorem wd_337 : Cond.instanceMethod ⟨"SuitByTailors$Plan", "takesBoy", "(I)Z"⟩ ∈ wG := wG_of (List.mem_append_right _ (List.mem_append_right _ (List.mem_append_left _ (List.mem_of_getElem? (i := 97) rfl)))) rfl
theorem wd_338 : Cond.code ⟨"SuitByTailors$Plan", "takesBoy", "(I)Z"⟩ prog_7_method_11_code 2 (some .boolean) ∈ wG := wG_of (List.mem_append_right _ (List.mem_append_right _ (List.mem_append_left _ (List.mem_of_getElem? (i := 98) rfl)))) rfl
theorem wd_339 : Cond.methodLink "SuitByTailors$Plan" 67 ⟨"SuitByTailors$Plan", "takesBolt", "(I)Z"⟩ ∈ wG := wG_of (List.mem_append_right _ (List.mem_append_right _ (List.mem_append_left _ (List.mem_of_getElem? (i := 99) rfl)))) rfl
theorem wd_341 : Cond.instanceMethod ⟨"SuitByTailors$Plan", "takesBolt", "(I)Z"⟩ ∈ wG := wG_of (List.mem_append_right _ (List.mem_append_right _ (List.mem_append_left _ (List.mem_of_getElem? (i := 101) rfl)))) rfl
theorem wd_342 : Cond.code ⟨"SuitByTailors$Plan", "takesBolt", "(I)Z"⟩ prog_7_method_12_code 2 (some .boolean) ∈ wG := wG_of (List.mem_append_right _ (List.mem_append_right _ (List.mem_append_left _ (List.mem_of_getElem? (i := 102) rfl)))) rfl
theorem wd_343 : Cond.fieldLink "SuitByTailors" 10 "SuitByTailors" "text" "LSuitByTailors$Text;" ∈ wG := wG_of (List.mem_append_right _ (List.mem_append_right _ (List.mem_append_left _ (List.mem_of_getElem? (i := 103) rfl)))) rfl
theorem wd_344 : Cond.fieldLink "SuitByTailors" 19 "SuitByTailors" "fitting" "LSuitByTailors$Fitting;" ∈ wG := wG_of (List.mem_append_right _ (List.mem_append_right _ (List.mem_append_left _ (List.mem_of_getElem? (i := 104) rfl)))) rfl
theorem wd_345 : Cond.fieldLink "SuitByTailors" 28 "SuitByTailors" "undoable" "LSuitByTailors$FittingStack;" ∈ wG := wG_of (List.mem_append_right _ (List.mem_append_right _ (List.mem_append_left _ (List.mem_of_getElem? (i := 105) rfl)))) rfl
theorem wd_346 : Cond.fieldLink "SuitByTailors" 32 "SuitByTailors" "kept" "LSuitByTailors$FittingStack;" ∈ wG := wG_of (List.mem_append_right _ (List.mem_append_right _ (List.mem_append_left _ (List.mem_of_getElem? (i := 106) rfl)))) rfl
theorem wd_347 : Cond.fieldLink "SuitByTailors" 38 "SuitByTailors" "sightings" "LSuitByTailors$Sightings;" ∈ wG := wG_of (List.mem_append_right _ (List.mem_append_right _ (List.mem_append_left _ (List.mem_of_getElem? (i := 107) rfl)))) rfl
theorem wd_348 : Cond.fieldLink "SuitByTailors" 45 "SuitByTailors" "pins" "LSuitByTailors$Pins;" ∈ wG := wG_of (List.mem_append_right _ (List.mem_append_right _ (List.mem_append_left _ (List.mem_of_getElem? (i := 108) rfl)))) rfl
theorem wd_349 : Cond.fieldLink "SuitByTailors" 52 "SuitByTailors" "orderSearch" "LSuitByTailors$OrderSearch;" ∈ wG := wG_of (List.mem_append_right _ (List.mem_append_right _ (List.mem_append_left _ (List.mem_of_getElem? (i := 109) rfl)))) rfl
theorem wd_350 : Cond.fieldLink "SuitByTailors" 59 "SuitByTailors" "boltSearch" "LSuitByTailors$BoltSearch;" ∈ wG := wG_of (List.mem_append_right _ (List.mem_append_right _ (List.mem_append_left _ (List.mem_of_getElem? (i := 110) rfl)))) rfl
theorem wd_351 : Cond.fieldLink "SuitByTailors" 63 "SuitByTailors" "lengths" "[I" ∈ wG := wG_of (List.mem_append_right _ (List.mem_append_right _ (List.mem_append_left _ (List.mem_of_getElem? (i := 111) rfl)))) rfl
theorem wd_352 : Cond.fieldLink "SuitByTailors" 67 "SuitByTailors" "toldTrue" "[I" ∈ wG := wG_of (List.mem_append_right _ (List.mem_append_right _ (List.mem_append_left _ (List.mem_of_getElem? (i := 112) rfl)))) rfl
theorem wd_353 : Cond.fieldLink "SuitByTailors" 70 "SuitByTailors" "toldByBoy" "[I" ∈ wG := wG_of (List.mem_append_right _ (List.mem_append_right _ (List.mem_append_left _ (List.mem_of_getElem? (i := 113) rfl)))) rfl
theorem wd_354 : Cond.fieldLink "SuitByTailors" 73 "SuitByTailors" "shortest" "[I" ∈ wG := wG_of (List.mem_append_right _ (List.mem_append_right _ (List.mem_append_left _ (List.mem_of_getElem? (i := 114) rfl)))) rfl
theorem wd_355 : Cond.fieldLink "SuitByTailors" 79 "SuitByTailors" "plan" "LSuitByTailors$Plan;" ∈ wG := wG_of (List.mem_append_right _ (List.mem_append_right _ (List.mem_append_left _ (List.mem_of_getElem? (i := 115) rfl)))) rfl
theorem wd_356 : Cond.fieldLink "SuitByTailors" 83 "SuitByTailors" "draft" "LSuitByTailors$Plan;" ∈ wG := wG_of (List.mem_append_right _ (List.mem_append_right _ (List.mem_append_left _ (List.mem_of_getElem? (i := 116) rfl)))) rfl
theorem wd_357 : Cond.laysFinal "SuitByTailors" "SuitByTailors" "text" "LSuitByTailors$Text;" ∈ wG := wG_of (List.mem_append_right _ (List.mem_append_right _ (List.mem_append_left _ (List.mem_of_getElem? (i := 117) rfl)))) rfl
theorem wd_359 : Cond.laysFinal "SuitByTailors" "SuitByTailors" "fitting" "LSuitByTailors$Fitting;" ∈ wG := wG_of (List.mem_append_right _ (List.mem_append_right _ (List.mem_append_left _ (List.mem_of_getElem? (i := 119) rfl)))) rfl
theorem wd_361 : Cond.laysFinal "SuitByTailors" "SuitByTailors" "undoable" "LSuitByTailors$FittingStack;" ∈ wG := wG_of (List.mem_append_right _ (List.mem_append_right _ (List.mem_append_left _ (List.mem_of_getElem? (i := 121) rfl)))) rfl
theorem wd_363 : Cond.laysFinal "SuitByTailors" "SuitByTailors" "kept" "LSuitByTailors$FittingStack;" ∈ wG := wG_of (List.mem_append_right _ (List.mem_append_right _ (List.mem_append_left _ (List.mem_of_getElem? (i := 123) rfl)))) rfl
theorem wd_365 : Cond.laysFinal "SuitByTailors" "SuitByTailors" "sightings" "LSuitByTailors$Sightings;" ∈ wG := wG_of (List.mem_append_right _ (List.mem_append_right _ (List.mem_append_left _ (List.mem_of_getElem? (i := 125) rfl)))) rfl
theorem wd_367 : Cond.laysFinal "SuitByTailors" "SuitByTailors" "pins" "LSuitByTailors$Pins;" ∈ wG := wG_of (List.mem_append_right _ (List.mem_append_right _ (List.mem_append_left _ (List.mem_of_getElem? (i := 127) rfl)))) rfl
theorem wd_369 : Cond.laysFinal "SuitByTailors" "SuitByTailors" "orderSearch" "LSuitByTailors$OrderSearch;" ∈ wG := wG_of (List.mem_append_right _ (List.mem_append_right _ (List.mem_append_left _ (List.mem_of_getElem? (i := 129) rfl)))) rfl
theorem wd_371 : Cond.laysFinal "SuitByTailors" "SuitByTailors" "boltSearch" "LSuitByTailors$BoltSearch;" ∈ wG := wG_of (List.mem_append_right _ (List.mem_append_right _ (List.mem_append_left _ (List.mem_of_getElem? (i := 131) rfl)))) rfl
theorem wd_373 : Cond.laysFinal "SuitByTailors" "SuitByTailors" "lengths" "[I" ∈ wG := wG_of (List.mem_append_right _ (List.mem_append_right _ (List.mem_append_left _ (List.mem_of_getElem? (i := 133) rfl)))) rfl
theorem wd_375 : Cond.laysFinal "SuitByTailors" "SuitByTailors" "toldTrue" "[I" ∈ wG := wG_of (List.mem_append_right _ (List.mem_append_right _ (List.mem_append_left _ (List.mem_of_getElem? (i := 135) rfl)))) rfl
theorem wd_377 : Cond.laysFinal "SuitByTailors" "SuitByTailors" "toldByBoy" "[I" ∈ wG := wG_of (List.mem_append_right _ (List.mem_append_right _ (List.mem_append_left _ (List.mem_of_getElem? (i := 137) rfl)))) rfl
theorem wd_379 : Cond.laysFinal "SuitByTailors" "SuitByTailors" "shortest" "[I" ∈ wG := wG_of (List.mem_append_right _ (List.mem_append_right _ (List.mem_append_left _ (List.mem_of_getElem? (i := 139) rfl)))) rfl
theorem wd_381 : Cond.lays "SuitByTailors" "SuitByTailors" "plan" "LSuitByTailors$Plan;" ∈ wG := wG_of (List.mem_append_right _ (List.mem_append_right _ (List.mem_append_left _ (List.mem_of_getElem? (i := 141) rfl)))) rfl
theorem wd_383 : Cond.lays "SuitByTailors" "SuitByTailors" "draft" "LSuitByTailors$Plan;" ∈ wG := wG_of (List.mem_append_right _ (List.mem_append_right _ (List.mem_append_left _ (List.mem_of_getElem? (i := 143) rfl)))) rfl
theorem wd_386 : Cond.methodLink "SuitByTailorsLaw" 15 ⟨"SuitByTailors", "write", "(IJ)I"⟩ ∈ wG := wG_of (List.mem_append_right _ (List.mem_append_right _ (List.mem_append_left _ (List.mem_of_getElem? (i := 146) rfl)))) rfl
theorem wd_387 : Cond.instanceMethod ⟨"SuitByTailors", "write", "(IJ)I"⟩ ∈ wG := wG_of (List.mem_append_right _ (List.mem_append_right _ (List.mem_append_left _ (List.mem_of_getElem? (i := 147) rfl)))) rfl
theorem wd_388 : Cond.selects "SuitByTailors" ⟨"SuitByTailors", "write", "(IJ)I"⟩ ⟨"SuitByTailors", "write", "(IJ)I"⟩ ∈ wG := wG_of (List.mem_append_right _ (List.mem_append_right _ (List.mem_append_left _ (List.mem_of_getElem? (i := 148) rfl)))) rfl
theorem wd_389 : Cond.code ⟨"SuitByTailors", "write", "(IJ)I"⟩ prog_1_method_2_code 5 (some .int) ∈ wG := wG_of (List.mem_append_right _ (List.mem_append_right _ (List.mem_append_left _ (List.mem_of_getElem? (i := 149) rfl)))) rfl
theorem wd_390 : Cond.methodLink "SuitByTailorsLaw" 20 ⟨"SuitByTailors", "wipe", "()I"⟩ ∈ wG := wG_of (List.mem_append_right _ (List.mem_append_right _ (List.mem_append_left _ (List.mem_of_getElem? (i := 150) rfl)))) rfl
theorem wd_391 : Cond.instanceMethod ⟨"SuitByTailors", "wipe", "()I"⟩ ∈ wG := wG_of (List.mem_append_right _ (List.mem_append_right _ (List.mem_append_left _ (List.mem_of_getElem? (i := 151) rfl)))) rfl
theorem wd_392 : Cond.selects "SuitByTailors" ⟨"SuitByTailors", "wipe", "()I"⟩ ⟨"SuitByTailors", "wipe", "()I"⟩ ∈ wG := wG_of (List.mem_append_right _ (List.mem_append_right _ (List.mem_append_left _ (List.mem_of_getElem? (i := 152) rfl)))) rfl
theorem wd_393 : Cond.code ⟨"SuitByTailors", "wipe", "()I"⟩ prog_1_method_3_code 2 (some .int) ∈ wG := wG_of (List.mem_append_right _ (List.mem_append_right _ (List.mem_append_left _ (List.mem_of_getElem? (i := 153) rfl)))) rfl
theorem wd_394 : Cond.methodLink "SuitByTailorsLaw" 25 ⟨"SuitByTailors", "fault", "()I"⟩ ∈ wG := wG_of (List.mem_append_right _ (List.mem_append_right _ (List.mem_append_left _ (List.mem_of_getElem? (i := 154) rfl)))) rfl
theorem wd_395 : Cond.instanceMethod ⟨"SuitByTailors", "fault", "()I"⟩ ∈ wG := wG_of (List.mem_append_right _ (List.mem_append_right _ (List.mem_append_left _ (List.mem_of_getElem? (i := 155) rfl)))) rfl
theorem wd_396 : Cond.selects "SuitByTailors" ⟨"SuitByTailors", "fault", "()I"⟩ ⟨"SuitByTailors", "fault", "()I"⟩ ∈ wG := wG_of (List.mem_append_right _ (List.mem_append_right _ (List.mem_append_left _ (List.mem_of_getElem? (i := 156) rfl)))) rfl
theorem wd_397 : Cond.code ⟨"SuitByTailors", "fault", "()I"⟩ prog_1_method_4_code 1 (some .int) ∈ wG := wG_of (List.mem_append_right _ (List.mem_append_right _ (List.mem_append_left _ (List.mem_of_getElem? (i := 157) rfl)))) rfl
theorem wd_398 : Cond.methodLink "SuitByTailorsLaw" 29 ⟨"SuitByTailors", "lay", "()I"⟩ ∈ wG := wG_of (List.mem_append_right _ (List.mem_append_right _ (List.mem_append_left _ (List.mem_of_getElem? (i := 158) rfl)))) rfl
theorem wd_399 : Cond.instanceMethod ⟨"SuitByTailors", "lay", "()I"⟩ ∈ wG := wG_of (List.mem_append_right _ (List.mem_append_right _ (List.mem_append_left _ (List.mem_of_getElem? (i := 159) rfl)))) rfl
theorem wd_400 : Cond.selects "SuitByTailors" ⟨"SuitByTailors", "lay", "()I"⟩ ⟨"SuitByTailors", "lay", "()I"⟩ ∈ wG := wG_of (List.mem_append_right _ (List.mem_append_right _ (List.mem_append_left _ (List.mem_of_getElem? (i := 160) rfl)))) rfl
theorem wd_401 : Cond.code ⟨"SuitByTailors", "lay", "()I"⟩ prog_1_method_5_code 2 (some .int) ∈ wG := wG_of (List.mem_append_right _ (List.mem_append_right _ (List.mem_append_left _ (List.mem_of_getElem? (i := 161) rfl)))) rfl
theorem wd_402 : Cond.methodLink "SuitByTailors" 111 ⟨"SuitByTailors$Fitting", "startAnew", "()V"⟩ ∈ wG := wG_of (List.mem_append_right _ (List.mem_append_right _ (List.mem_append_left _ (List.mem_of_getElem? (i := 162) rfl)))) rfl
theorem wd_403 : Cond.methodLink "SuitByTailors" 114 ⟨"SuitByTailors$FittingStack", "clear", "()V"⟩ ∈ wG := wG_of (List.mem_append_right _ (List.mem_append_right _ (List.mem_append_left _ (List.mem_of_getElem? (i := 163) rfl)))) rfl
theorem wd_404 : Cond.instanceMethod ⟨"SuitByTailors$FittingStack", "clear", "()V"⟩ ∈ wG := wG_of (List.mem_append_right _ (List.mem_append_right _ (List.mem_append_left _ (List.mem_of_getElem? (i := 164) rfl)))) rfl
theorem wd_405 : Cond.selects "SuitByTailors$FittingStack" ⟨"SuitByTailors$FittingStack", "clear", "()V"⟩ ⟨"SuitByTailors$FittingStack", "clear", "()V"⟩ ∈ wG := wG_of (List.mem_append_right _ (List.mem_append_right _ (List.mem_append_left _ (List.mem_of_getElem? (i := 165) rfl)))) rfl
theorem wd_406 : Cond.code ⟨"SuitByTailors$FittingStack", "clear", "()V"⟩ prog_4_method_2_code 1 none ∈ wG := wG_of (List.mem_append_right _ (List.mem_append_right _ (List.mem_append_left _ (List.mem_of_getElem? (i := 166) rfl)))) rfl
theorem wd_407 : Cond.methodLink "SuitByTailorsLaw" 33 ⟨"SuitByTailors", "part", "(II)I"⟩ ∈ wG := wG_of (List.mem_append_right _ (List.mem_append_right _ (List.mem_append_left _ (List.mem_of_getElem? (i := 167) rfl)))) rfl
theorem wd_408 : Cond.instanceMethod ⟨"SuitByTailors", "part", "(II)I"⟩ ∈ wG := wG_of (List.mem_append_right _ (List.mem_append_right _ (List.mem_append_left _ (List.mem_of_getElem? (i := 168) rfl)))) rfl
theorem wd_409 : Cond.selects "SuitByTailors" ⟨"SuitByTailors", "part", "(II)I"⟩ ⟨"SuitByTailors", "part", "(II)I"⟩ ∈ wG := wG_of (List.mem_append_right _ (List.mem_append_right _ (List.mem_append_left _ (List.mem_of_getElem? (i := 169) rfl)))) rfl
theorem wd_410 : Cond.code ⟨"SuitByTailors", "part", "(II)I"⟩ prog_1_method_6_code 3 (some .int) ∈ wG := wG_of (List.mem_append_right _ (List.mem_append_right _ (List.mem_append_left _ (List.mem_of_getElem? (i := 170) rfl)))) rfl
theorem wd_411 : Cond.methodLink "SuitByTailors" 125 ⟨"SuitByTailors$Plan", "hasPart", "(I)Z"⟩ ∈ wG := wG_of (List.mem_append_right _ (List.mem_append_right _ (List.mem_append_left _ (List.mem_of_getElem? (i := 171) rfl)))) rfl
theorem wd_412 : Cond.methodLink "SuitByTailors" 138 ⟨"SuitByTailors$Fitting", "placeOf", "(I)I"⟩ ∈ wG := wG_of (List.mem_append_right _ (List.mem_append_right _ (List.mem_append_left _ (List.mem_of_getElem? (i := 172) rfl)))) rfl
theorem wd_413 : Cond.instanceMethod ⟨"SuitByTailors$Fitting", "placeOf", "(I)I"⟩ ∈ wG := wG_of (List.mem_append_right _ (List.mem_append_right _ (List.mem_append_left _ (List.mem_of_getElem? (i := 173) rfl)))) rfl
theorem wd_414 : Cond.selects "SuitByTailors$Fitting" ⟨"SuitByTailors$Fitting", "placeOf", "(I)I"⟩ ⟨"SuitByTailors$Fitting", "placeOf", "(I)I"⟩ ∈ wG := wG_of (List.mem_append_right _ (List.mem_append_right _ (List.mem_append_left _ (List.mem_of_getElem? (i := 174) rfl)))) rfl
theorem wd_415 : Cond.code ⟨"SuitByTailors$Fitting", "placeOf", "(I)I"⟩ prog_3_method_3_code 3 (some .int) ∈ wG := wG_of (List.mem_append_right _ (List.mem_append_right _ (List.mem_append_left _ (List.mem_of_getElem? (i := 175) rfl)))) rfl
theorem wd_416 : Cond.methodLink "SuitByTailors" 142 ⟨"SuitByTailors", "slipNow", "(I)I"⟩ ∈ wG := wG_of (List.mem_append_right _ (List.mem_append_right _ (List.mem_append_left _ (List.mem_of_getElem? (i := 176) rfl)))) rfl
theorem wd_418 : Cond.instanceMethod ⟨"SuitByTailors", "slipNow", "(I)I"⟩ ∈ wG := wG_of (List.mem_append_right _ (List.mem_append_right _ (List.mem_append_left _ (List.mem_of_getElem? (i := 178) rfl)))) rfl
theorem wd_419 : Cond.code ⟨"SuitByTailors", "slipNow", "(I)I"⟩ prog_1_method_29_code 2 (some .int) ∈ wG := wG_of (List.mem_append_right _ (List.mem_append_right _ (List.mem_append_left _ (List.mem_of_getElem? (i := 179) rfl)))) rfl
theorem wd_420 : Cond.methodLink "SuitByTailors" 254 ⟨"SuitByTailors$Plan", "slip", "(III)I"⟩ ∈ wG := wG_of (List.mem_append_right _ (List.mem_append_right _ (List.mem_append_left _ (List.mem_of_getElem? (i := 180) rfl)))) rfl
theorem wd_421 : Cond.static ⟨"SuitByTailors$Plan", "slip", "(III)I"⟩ ∈ wG := wG_of (List.mem_append_right _ (List.mem_append_right _ (List.mem_append_left _ (List.mem_of_getElem? (i := 181) rfl)))) rfl
theorem wd_422 : Cond.code ⟨"SuitByTailors$Plan", "slip", "(III)I"⟩ prog_7_method_13_code 6 (some .int) ∈ wG := wG_of (List.mem_append_right _ (List.mem_append_right _ (List.mem_append_left _ (List.mem_of_getElem? (i := 182) rfl)))) rfl
theorem wd_423 : Cond.constantLong "SuitByTailors$Plan" 76 (7919 : Int64) ∈ wG := wG_of (List.mem_append_right _ (List.mem_append_right _ (List.mem_append_left _ (List.mem_of_getElem? (i := 183) rfl)))) rfl
theorem wd_424 : Cond.constantLong "SuitByTailors$Plan" 78 (6151 : Int64) ∈ wG := wG_of (List.mem_append_right _ (List.mem_append_right _ (List.mem_append_left _ (List.mem_of_getElem? (i := 184) rfl)))) rfl
theorem wd_425 : Cond.constantLong "SuitByTailors$Plan" 80 (3571 : Int64) ∈ wG := wG_of (List.mem_append_right _ (List.mem_append_right _ (List.mem_append_left _ (List.mem_of_getElem? (i := 185) rfl)))) rfl
theorem wd_426 : Cond.methodLink "SuitByTailors$Plan" 82 ⟨"java/lang/Math", "min", "(II)I"⟩ ∈ wG := wG_of (List.mem_append_right _ (List.mem_append_right _ (List.mem_append_left _ (List.mem_of_getElem? (i := 186) rfl)))) rfl
theorem wd_427 : Cond.static ⟨"java/lang/Math", "min", "(II)I"⟩ ∈ wG := wG_of (List.mem_append_right _ (List.mem_append_right _ (List.mem_append_left _ (List.mem_of_getElem? (i := 187) rfl)))) rfl
theorem wd_428 : Cond.code ⟨"java/lang/Math", "min", "(II)I"⟩ prog_12_method_69_code 2 (some .int) ∈ wG := wG_of (List.mem_append_right _ (List.mem_append_right _ (List.mem_append_left _ (List.mem_of_getElem? (i := 188) rfl)))) rfl
theorem wd_429 : Cond.methodLink "SuitByTailors$Plan" 88 ⟨"java/lang/Math", "max", "(II)I"⟩ ∈ wG := wG_of (List.mem_append_right _ (List.mem_append_right _ (List.mem_append_left _ (List.mem_of_getElem? (i := 189) rfl)))) rfl
theorem wd_430 : Cond.constantLong "SuitByTailors$Plan" 91 (65521 : Int64) ∈ wG := wG_of (List.mem_append_right _ (List.mem_append_right _ (List.mem_append_left _ (List.mem_of_getElem? (i := 190) rfl)))) rfl
theorem wd_431 : Cond.methodLink "SuitByTailors" 145 ⟨"SuitByTailors$Plan", "cutLength", "(II)I"⟩ ∈ wG := wG_of (List.mem_append_right _ (List.mem_append_right _ (List.mem_append_left _ (List.mem_of_getElem? (i := 191) rfl)))) rfl
theorem wd_432 : Cond.instanceMethod ⟨"SuitByTailors$Plan", "cutLength", "(II)I"⟩ ∈ wG := wG_of (List.mem_append_right _ (List.mem_append_right _ (List.mem_append_left _ (List.mem_of_getElem? (i := 192) rfl)))) rfl
theorem wd_433 : Cond.selects "SuitByTailors$Plan" ⟨"SuitByTailors$Plan", "cutLength", "(II)I"⟩ ⟨"SuitByTailors$Plan", "cutLength", "(II)I"⟩ ∈ wG := wG_of (List.mem_append_right _ (List.mem_append_right _ (List.mem_append_left _ (List.mem_of_getElem? (i := 193) rfl)))) rfl
theorem wd_434 : Cond.code ⟨"SuitByTailors$Plan", "cutLength", "(II)I"⟩ prog_7_method_14_code 3 (some .int) ∈ wG := wG_of (List.mem_append_right _ (List.mem_append_right _ (List.mem_append_left _ (List.mem_of_getElem? (i := 194) rfl)))) rfl
theorem wd_435 : Cond.methodLink "SuitByTailors$Plan" 93 ⟨"SuitByTailors$Plan", "byInch", "(II)I"⟩ ∈ wG := wG_of (List.mem_append_right _ (List.mem_append_right _ (List.mem_append_left _ (List.mem_of_getElem? (i := 195) rfl)))) rfl
theorem wd_436 : Cond.static ⟨"SuitByTailors$Plan", "byInch", "(II)I"⟩ ∈ wG := wG_of (List.mem_append_right _ (List.mem_append_right _ (List.mem_append_left _ (List.mem_of_getElem? (i := 196) rfl)))) rfl
theorem wd_437 : Cond.code ⟨"SuitByTailors$Plan", "byInch", "(II)I"⟩ prog_7_method_15_code 2 (some .int) ∈ wG := wG_of (List.mem_append_right _ (List.mem_append_right _ (List.mem_append_left _ (List.mem_of_getElem? (i := 197) rfl)))) rfl
theorem wd_438 : Cond.methodLink "SuitByTailors" 149 ⟨"SuitByTailors", "lengthNow", "(I)I"⟩ ∈ wG := wG_of (List.mem_append_right _ (List.mem_append_right _ (List.mem_append_left _ (List.mem_of_getElem? (i := 198) rfl)))) rfl
theorem wd_440 : Cond.instanceMethod ⟨"SuitByTailors", "lengthNow", "(I)I"⟩ ∈ wG := wG_of (List.mem_append_right _ (List.mem_append_right _ (List.mem_append_left _ (List.mem_of_getElem? (i := 200) rfl)))) rfl
theorem wd_441 : Cond.code ⟨"SuitByTailors", "lengthNow", "(I)I"⟩ prog_1_method_30_code 2 (some .int) ∈ wG := wG_of (List.mem_append_right _ (List.mem_append_right _ (List.mem_append_left _ (List.mem_of_getElem? (i := 201) rfl)))) rfl
theorem wd_442 : Cond.methodLink "SuitByTailorsLaw" 38 ⟨"SuitByTailors", "gap", "(I)I"⟩ ∈ wG := wG_of (List.mem_append_right _ (List.mem_append_right _ (List.mem_append_left _ (List.mem_of_getElem? (i := 202) rfl)))) rfl
theorem wd_443 : Cond.instanceMethod ⟨"SuitByTailors", "gap", "(I)I"⟩ ∈ wG := wG_of (List.mem_append_right _ (List.mem_append_right _ (List.mem_append_left _ (List.mem_of_getElem? (i := 203) rfl)))) rfl
theorem wd_444 : Cond.selects "SuitByTailors" ⟨"SuitByTailors", "gap", "(I)I"⟩ ⟨"SuitByTailors", "gap", "(I)I"⟩ ∈ wG := wG_of (List.mem_append_right _ (List.mem_append_right _ (List.mem_append_left _ (List.mem_of_getElem? (i := 204) rfl)))) rfl
theorem wd_445 : Cond.code ⟨"SuitByTailors", "gap", "(I)I"⟩ prog_1_method_7_code 2 (some .int) ∈ wG := wG_of (List.mem_append_right _ (List.mem_append_right _ (List.mem_append_left _ (List.mem_of_getElem? (i := 205) rfl)))) rfl
theorem wd_446 : Cond.methodLink "SuitByTailors" 152 ⟨"SuitByTailors$Plan", "hasSeam", "(I)Z"⟩ ∈ wG := wG_of (List.mem_append_right _ (List.mem_append_right _ (List.mem_append_left _ (List.mem_of_getElem? (i := 206) rfl)))) rfl
theorem wd_447 : Cond.instanceMethod ⟨"SuitByTailors$Plan", "hasSeam", "(I)Z"⟩ ∈ wG := wG_of (List.mem_append_right _ (List.mem_append_right _ (List.mem_append_left _ (List.mem_of_getElem? (i := 207) rfl)))) rfl
theorem wd_448 : Cond.selects "SuitByTailors$Plan" ⟨"SuitByTailors$Plan", "hasSeam", "(I)Z"⟩ ⟨"SuitByTailors$Plan", "hasSeam", "(I)Z"⟩ ∈ wG := wG_of (List.mem_append_right _ (List.mem_append_right _ (List.mem_append_left _ (List.mem_of_getElem? (i := 208) rfl)))) rfl
theorem wd_449 : Cond.code ⟨"SuitByTailors$Plan", "hasSeam", "(I)Z"⟩ prog_7_method_5_code 2 (some .boolean) ∈ wG := wG_of (List.mem_append_right _ (List.mem_append_right _ (List.mem_append_left _ (List.mem_of_getElem? (i := 209) rfl)))) rfl
theorem wd_450 : Cond.methodLink "SuitByTailors" 155 ⟨"SuitByTailors", "measureNow", "()V"⟩ ∈ wG := wG_of (List.mem_append_right _ (List.mem_append_right _ (List.mem_append_left _ (List.mem_of_getElem? (i := 210) rfl)))) rfl
theorem wd_452 : Cond.instanceMethod ⟨"SuitByTailors", "measureNow", "()V"⟩ ∈ wG := wG_of (List.mem_append_right _ (List.mem_append_right _ (List.mem_append_left _ (List.mem_of_getElem? (i := 212) rfl)))) rfl
theorem wd_453 : Cond.code ⟨"SuitByTailors", "measureNow", "()V"⟩ prog_1_method_31_code 2 none ∈ wG := wG_of (List.mem_append_right _ (List.mem_append_right _ (List.mem_append_left _ (List.mem_of_getElem? (i := 213) rfl)))) rfl
theorem wd_454 : Cond.methodLink "SuitByTailors" 158 ⟨"SuitByTailors$Plan", "sumOfGaps", "([I)I"⟩ ∈ wG := wG_of (List.mem_append_right _ (List.mem_append_right _ (List.mem_append_left _ (List.mem_of_getElem? (i := 214) rfl)))) rfl
theorem wd_455 : Cond.instanceMethod ⟨"SuitByTailors$Plan", "sumOfGaps", "([I)I"⟩ ∈ wG := wG_of (List.mem_append_right _ (List.mem_append_right _ (List.mem_append_left _ (List.mem_of_getElem? (i := 215) rfl)))) rfl
theorem wd_456 : Cond.selects "SuitByTailors$Plan" ⟨"SuitByTailors$Plan", "sumOfGaps", "([I)I"⟩ ⟨"SuitByTailors$Plan", "sumOfGaps", "([I)I"⟩ ∈ wG := wG_of (List.mem_append_right _ (List.mem_append_right _ (List.mem_append_left _ (List.mem_of_getElem? (i := 216) rfl)))) rfl
theorem wd_457 : Cond.code ⟨"SuitByTailors$Plan", "sumOfGaps", "([I)I"⟩ prog_7_method_17_code 4 (some .int) ∈ wG := wG_of (List.mem_append_right _ (List.mem_append_right _ (List.mem_append_left _ (List.mem_of_getElem? (i := 217) rfl)))) rfl
theorem wd_458 : Cond.methodLink "SuitByTailors$Plan" 100 ⟨"SuitByTailors$Plan", "gapOf", "(I[I)I"⟩ ∈ wG := wG_of (List.mem_append_right _ (List.mem_append_right _ (List.mem_append_left _ (List.mem_of_getElem? (i := 218) rfl)))) rfl
theorem wd_459 : Cond.instanceMethod ⟨"SuitByTailors$Plan", "gapOf", "(I[I)I"⟩ ∈ wG := wG_of (List.mem_append_right _ (List.mem_append_right _ (List.mem_append_left _ (List.mem_of_getElem? (i := 219) rfl)))) rfl
theorem wd_460 : Cond.selects "SuitByTailors$Plan" ⟨"SuitByTailors$Plan", "gapOf", "(I[I)I"⟩ ⟨"SuitByTailors$Plan", "gapOf", "(I[I)I"⟩ ∈ wG := wG_of (List.mem_append_right _ (List.mem_append_right _ (List.mem_append_left _ (List.mem_of_getElem? (i := 220) rfl)))) rfl
theorem wd_461 : Cond.code ⟨"SuitByTailors$Plan", "gapOf", "(I[I)I"⟩ prog_7_method_16_code 3 (some .int) ∈ wG := wG_of (List.mem_append_right _ (List.mem_append_right _ (List.mem_append_left _ (List.mem_of_getElem? (i := 221) rfl)))) rfl
theorem wd_462 : Cond.methodLink "SuitByTailors$Plan" 96 ⟨"java/lang/Math", "abs", "(I)I"⟩ ∈ wG := wG_of (List.mem_append_right _ (List.mem_append_right _ (List.mem_append_left _ (List.mem_of_getElem? (i := 222) rfl)))) rfl
theorem wd_463 : Cond.static ⟨"java/lang/Math", "abs", "(I)I"⟩ ∈ wG := wG_of (List.mem_append_right _ (List.mem_append_right _ (List.mem_append_left _ (List.mem_of_getElem? (i := 223) rfl)))) rfl
theorem wd_464 : Cond.code ⟨"java/lang/Math", "abs", "(I)I"⟩ prog_12_method_59_code 1 (some .int) ∈ wG := wG_of (List.mem_append_right _ (List.mem_append_right _ (List.mem_append_left _ (List.mem_of_getElem? (i := 224) rfl)))) rfl
theorem wd_465 : Cond.methodLink "SuitByTailors" 162 ⟨"SuitByTailors$Plan", "gapOf", "(I[I)I"⟩ ∈ wG := wG_of (List.mem_append_right _ (List.mem_append_right _ (List.mem_append_left _ (List.mem_of_getElem? (i := 225) rfl)))) rfl
theorem wd_466 : Cond.methodLink "SuitByTailorsLaw" 43 ⟨"SuitByTailors", "closes", "()I"⟩ ∈ wG := wG_of (List.mem_append_right _ (List.mem_append_right _ (List.mem_append_left _ (List.mem_of_getElem? (i := 226) rfl)))) rfl
theorem wd_467 : Cond.instanceMethod ⟨"SuitByTailors", "closes", "()I"⟩ ∈ wG := wG_of (List.mem_append_right _ (List.mem_append_right _ (List.mem_append_left _ (List.mem_of_getElem? (i := 227) rfl)))) rfl
theorem wd_468 : Cond.selects "SuitByTailors" ⟨"SuitByTailors", "closes", "()I"⟩ ⟨"SuitByTailors", "closes", "()I"⟩ ∈ wG := wG_of (List.mem_append_right _ (List.mem_append_right _ (List.mem_append_left _ (List.mem_of_getElem? (i := 228) rfl)))) rfl
theorem wd_469 : Cond.code ⟨"SuitByTailors", "closes", "()I"⟩ prog_1_method_8_code 1 (some .int) ∈ wG := wG_of (List.mem_append_right _ (List.mem_append_right _ (List.mem_append_left _ (List.mem_of_getElem? (i := 229) rfl)))) rfl
theorem wd_470 : Cond.methodLink "SuitByTailors" 166 ⟨"SuitByTailors$Plan", "isClosedBy", "([I)Z"⟩ ∈ wG := wG_of (List.mem_append_right _ (List.mem_append_right _ (List.mem_append_left _ (List.mem_of_getElem? (i := 230) rfl)))) rfl
theorem wd_471 : Cond.instanceMethod ⟨"SuitByTailors$Plan", "isClosedBy", "([I)Z"⟩ ∈ wG := wG_of (List.mem_append_right _ (List.mem_append_right _ (List.mem_append_left _ (List.mem_of_getElem? (i := 231) rfl)))) rfl
theorem wd_472 : Cond.selects "SuitByTailors$Plan" ⟨"SuitByTailors$Plan", "isClosedBy", "([I)Z"⟩ ⟨"SuitByTailors$Plan", "isClosedBy", "([I)Z"⟩ ∈ wG := wG_of (List.mem_append_right _ (List.mem_append_right _ (List.mem_append_left _ (List.mem_of_getElem? (i := 232) rfl)))) rfl
theorem wd_473 : Cond.code ⟨"SuitByTailors$Plan", "isClosedBy", "([I)Z"⟩ prog_7_method_18_code 3 (some .boolean) ∈ wG := wG_of (List.mem_append_right _ (List.mem_append_right _ (List.mem_append_left _ (List.mem_of_getElem? (i := 233) rfl)))) rfl
theorem wd_474 : Cond.methodLink "SuitByTailorsLaw" 47 ⟨"SuitByTailors", "change", "(II)I"⟩ ∈ wG := wG_of (List.mem_append_right _ (List.mem_append_right _ (List.mem_append_left _ (List.mem_of_getElem? (i := 234) rfl)))) rfl
theorem wd_475 : Cond.instanceMethod ⟨"SuitByTailors", "change", "(II)I"⟩ ∈ wG := wG_of (List.mem_append_right _ (List.mem_append_right _ (List.mem_append_left _ (List.mem_of_getElem? (i := 235) rfl)))) rfl
theorem wd_476 : Cond.selects "SuitByTailors" ⟨"SuitByTailors", "change", "(II)I"⟩ ⟨"SuitByTailors", "change", "(II)I"⟩ ∈ wG := wG_of (List.mem_append_right _ (List.mem_append_right _ (List.mem_append_left _ (List.mem_of_getElem? (i := 236) rfl)))) rfl
theorem wd_477 : Cond.code ⟨"SuitByTailors", "change", "(II)I"⟩ prog_1_method_9_code 3 (some .int) ∈ wG := wG_of (List.mem_append_right _ (List.mem_append_right _ (List.mem_append_left _ (List.mem_of_getElem? (i := 237) rfl)))) rfl
theorem wd_478 : Cond.methodLink "SuitByTailors" 170 ⟨"SuitByTailors$FittingStack", "push", "(LSuitByTailors$Fitting;)V"⟩ ∈ wG := wG_of (List.mem_append_right _ (List.mem_append_right _ (List.mem_append_left _ (List.mem_of_getElem? (i := 238) rfl)))) rfl
theorem wd_479 : Cond.instanceMethod ⟨"SuitByTailors$FittingStack", "push", "(LSuitByTailors$Fitting;)V"⟩ ∈ wG := wG_of (List.mem_append_right _ (List.mem_append_right _ (List.mem_append_left _ (List.mem_of_getElem? (i := 239) rfl)))) rfl
theorem wd_480 : Cond.selects "SuitByTailors$FittingStack" ⟨"SuitByTailors$FittingStack", "push", "(LSuitByTailors$Fitting;)V"⟩ ⟨"SuitByTailors$FittingStack", "push", "(LSuitByTailors$Fitting;)V"⟩ ∈ wG := wG_of (List.mem_append_right _ (List.mem_append_right _ (List.mem_append_right _ (List.mem_append_left _ (List.mem_of_getElem? (i := 0) rfl))))) rfl
theorem wd_481 : Cond.code ⟨"SuitByTailors$FittingStack", "push", "(LSuitByTailors$Fitting;)V"⟩ prog_4_method_3_code 3 none ∈ wG := wG_of (List.mem_append_right _ (List.mem_append_right _ (List.mem_append_right _ (List.mem_append_left _ (List.mem_of_getElem? (i := 1) rfl))))) rfl
theorem wd_482 : Cond.methodLink "SuitByTailors$FittingStack" 38 ⟨"java/lang/Math", "min", "(II)I"⟩ ∈ wG := wG_of (List.mem_append_right _ (List.mem_append_right _ (List.mem_append_right _ (List.mem_append_left _ (List.mem_of_getElem? (i := 2) rfl))))) rfl
theorem wd_483 : Cond.methodLink "SuitByTailors" 174 ⟨"SuitByTailors$Fitting", "swapPlaces", "(II)V"⟩ ∈ wG := wG_of (List.mem_append_right _ (List.mem_append_right _ (List.mem_append_right _ (List.mem_append_left _ (List.mem_of_getElem? (i := 3) rfl))))) rfl
theorem wd_484 : Cond.instanceMethod ⟨"SuitByTailors$Fitting", "swapPlaces", "(II)V"⟩ ∈ wG := wG_of (List.mem_append_right _ (List.mem_append_right _ (List.mem_append_right _ (List.mem_append_left _ (List.mem_of_getElem? (i := 4) rfl))))) rfl
theorem wd_485 : Cond.selects "SuitByTailors$Fitting" ⟨"SuitByTailors$Fitting", "swapPlaces", "(II)V"⟩ ⟨"SuitByTailors$Fitting", "swapPlaces", "(II)V"⟩ ∈ wG := wG_of (List.mem_append_right _ (List.mem_append_right _ (List.mem_append_right _ (List.mem_append_left _ (List.mem_of_getElem? (i := 5) rfl))))) rfl
theorem wd_486 : Cond.code ⟨"SuitByTailors$Fitting", "swapPlaces", "(II)V"⟩ prog_3_method_4_code 5 none ∈ wG := wG_of (List.mem_append_right _ (List.mem_append_right _ (List.mem_append_right _ (List.mem_append_left _ (List.mem_of_getElem? (i := 6) rfl))))) rfl
theorem wd_487 : Cond.methodLink "SuitByTailorsLaw" 51 ⟨"SuitByTailors", "alter", "(II)I"⟩ ∈ wG := wG_of (List.mem_append_right _ (List.mem_append_right _ (List.mem_append_right _ (List.mem_append_left _ (List.mem_of_getElem? (i := 7) rfl))))) rfl
theorem wd_488 : Cond.instanceMethod ⟨"SuitByTailors", "alter", "(II)I"⟩ ∈ wG := wG_of (List.mem_append_right _ (List.mem_append_right _ (List.mem_append_right _ (List.mem_append_left _ (List.mem_of_getElem? (i := 8) rfl))))) rfl
theorem wd_489 : Cond.selects "SuitByTailors" ⟨"SuitByTailors", "alter", "(II)I"⟩ ⟨"SuitByTailors", "alter", "(II)I"⟩ ∈ wG := wG_of (List.mem_append_right _ (List.mem_append_right _ (List.mem_append_right _ (List.mem_append_left _ (List.mem_of_getElem? (i := 9) rfl))))) rfl
theorem wd_490 : Cond.code ⟨"SuitByTailors", "alter", "(II)I"⟩ prog_1_method_10_code 4 (some .int) ∈ wG := wG_of (List.mem_append_right _ (List.mem_append_right _ (List.mem_append_right _ (List.mem_append_left _ (List.mem_of_getElem? (i := 10) rfl))))) rfl
theorem wd_491 : Cond.methodLink "SuitByTailorsLaw" 55 ⟨"SuitByTailors", "undo", "()I"⟩ ∈ wG := wG_of (List.mem_append_right _ (List.mem_append_right _ (List.mem_append_right _ (List.mem_append_left _ (List.mem_of_getElem? (i := 11) rfl))))) rfl
theorem wd_492 : Cond.instanceMethod ⟨"SuitByTailors", "undo", "()I"⟩ ∈ wG := wG_of (List.mem_append_right _ (List.mem_append_right _ (List.mem_append_right _ (List.mem_append_left _ (List.mem_of_getElem? (i := 12) rfl))))) rfl
theorem wd_493 : Cond.selects "SuitByTailors" ⟨"SuitByTailors", "undo", "()I"⟩ ⟨"SuitByTailors", "undo", "()I"⟩ ∈ wG := wG_of (List.mem_append_right _ (List.mem_append_right _ (List.mem_append_right _ (List.mem_append_left _ (List.mem_of_getElem? (i := 13) rfl))))) rfl
theorem wd_494 : Cond.code ⟨"SuitByTailors", "undo", "()I"⟩ prog_1_method_11_code 1 (some .int) ∈ wG := wG_of (List.mem_append_right _ (List.mem_append_right _ (List.mem_append_right _ (List.mem_append_left _ (List.mem_of_getElem? (i := 14) rfl))))) rfl
theorem wd_495 : Cond.methodLink "SuitByTailors" 182 ⟨"SuitByTailors$FittingStack", "popInto", "(LSuitByTailors$Fitting;)V"⟩ ∈ wG := wG_of (List.mem_append_right _ (List.mem_append_right _ (List.mem_append_right _ (List.mem_append_left _ (List.mem_of_getElem? (i := 15) rfl))))) rfl
theorem wd_496 : Cond.instanceMethod ⟨"SuitByTailors$FittingStack", "popInto", "(LSuitByTailors$Fitting;)V"⟩ ∈ wG := wG_of (List.mem_append_right _ (List.mem_append_right _ (List.mem_append_right _ (List.mem_append_left _ (List.mem_of_getElem? (i := 16) rfl))))) rfl
theorem wd_497 : Cond.selects "SuitByTailors$FittingStack" ⟨"SuitByTailors$FittingStack", "popInto", "(LSuitByTailors$Fitting;)V"⟩ ⟨"SuitByTailors$FittingStack", "popInto", "(LSuitByTailors$Fitting;)V"⟩ ∈ wG := wG_of (List.mem_append_right _ (List.mem_append_right _ (List.mem_append_right _ (List.mem_append_left _ (List.mem_of_getElem? (i := 17) rfl))))) rfl
theorem wd_498 : Cond.code ⟨"SuitByTailors$FittingStack", "popInto", "(LSuitByTailors$Fitting;)V"⟩ prog_4_method_4_code 3 none ∈ wG := wG_of (List.mem_append_right _ (List.mem_append_right _ (List.mem_append_right _ (List.mem_append_left _ (List.mem_of_getElem? (i := 18) rfl))))) rfl
theorem wd_499 : Cond.methodLink "SuitByTailorsLaw" 59 ⟨"SuitByTailors", "order", "(I)I"⟩ ∈ wG := wG_of (List.mem_append_right _ (List.mem_append_right _ (List.mem_append_right _ (List.mem_append_left _ (List.mem_of_getElem? (i := 19) rfl))))) rfl
theorem wd_500 : Cond.instanceMethod ⟨"SuitByTailors", "order", "(I)I"⟩ ∈ wG := wG_of (List.mem_append_right _ (List.mem_append_right _ (List.mem_append_right _ (List.mem_append_left _ (List.mem_of_getElem? (i := 20) rfl))))) rfl
theorem wd_501 : Cond.selects "SuitByTailors" ⟨"SuitByTailors", "order", "(I)I"⟩ ⟨"SuitByTailors", "order", "(I)I"⟩ ∈ wG := wG_of (List.mem_append_right _ (List.mem_append_right _ (List.mem_append_right _ (List.mem_append_left _ (List.mem_of_getElem? (i := 21) rfl))))) rfl
theorem wd_502 : Cond.code ⟨"SuitByTailors", "order", "(I)I"⟩ prog_1_method_12_code 2 (some .int) ∈ wG := wG_of (List.mem_append_right _ (List.mem_append_right _ (List.mem_append_right _ (List.mem_append_left _ (List.mem_of_getElem? (i := 22) rfl))))) rfl
theorem wd_503 : Cond.methodLink "SuitByTailors" 185 ⟨"SuitByTailors$OrderSearch", "search", "(LSuitByTailors$Plan;)V"⟩ ∈ wG := wG_of (List.mem_append_right _ (List.mem_append_right _ (List.mem_append_right _ (List.mem_append_left _ (List.mem_of_getElem? (i := 23) rfl))))) rfl
theorem wd_504 : Cond.instanceMethod ⟨"SuitByTailors$OrderSearch", "search", "(LSuitByTailors$Plan;)V"⟩ ∈ wG := wG_of (List.mem_append_right _ (List.mem_append_right _ (List.mem_append_right _ (List.mem_append_left _ (List.mem_of_getElem? (i := 24) rfl))))) rfl
theorem wd_505 : Cond.selects "SuitByTailors$OrderSearch" ⟨"SuitByTailors$OrderSearch", "search", "(LSuitByTailors$Plan;)V"⟩ ⟨"SuitByTailors$OrderSearch", "search", "(LSuitByTailors$Plan;)V"⟩ ∈ wG := wG_of (List.mem_append_right _ (List.mem_append_right _ (List.mem_append_right _ (List.mem_append_left _ (List.mem_of_getElem? (i := 25) rfl))))) rfl
theorem wd_506 : Cond.code ⟨"SuitByTailors$OrderSearch", "search", "(LSuitByTailors$Plan;)V"⟩ prog_5_method_2_code 2 none ∈ wG := wG_of (List.mem_append_right _ (List.mem_append_right _ (List.mem_append_right _ (List.mem_append_left _ (List.mem_of_getElem? (i := 26) rfl))))) rfl
theorem wd_507 : Cond.constant "SuitByTailors$OrderSearch" 34 (2147483647 : Int32) ∈ wG := wG_of (List.mem_append_right _ (List.mem_append_right _ (List.mem_append_right _ (List.mem_append_left _ (List.mem_of_getElem? (i := 27) rfl))))) rfl
theorem wd_508 : Cond.methodLink "SuitByTailors$OrderSearch" 35 ⟨"SuitByTailors$OrderSearch", "tryPlace", "(LSuitByTailors$Plan;II)V"⟩ ∈ wG := wG_of (List.mem_append_right _ (List.mem_append_right _ (List.mem_append_right _ (List.mem_append_left _ (List.mem_of_getElem? (i := 28) rfl))))) rfl
theorem wd_510 : Cond.instanceMethod ⟨"SuitByTailors$OrderSearch", "tryPlace", "(LSuitByTailors$Plan;II)V"⟩ ∈ wG := wG_of (List.mem_append_right _ (List.mem_append_right _ (List.mem_append_right _ (List.mem_append_left _ (List.mem_of_getElem? (i := 30) rfl))))) rfl
theorem wd_511 : Cond.code ⟨"SuitByTailors$OrderSearch", "tryPlace", "(LSuitByTailors$Plan;II)V"⟩ prog_5_method_3_code 5 none ∈ wG := wG_of (List.mem_append_right _ (List.mem_append_right _ (List.mem_append_right _ (List.mem_append_left _ (List.mem_of_getElem? (i := 31) rfl))))) rfl
theorem wd_512 : Cond.methodLink "SuitByTailors$OrderSearch" 44 ⟨"SuitByTailors$OrderSearch", "isPlaced", "(I)Z"⟩ ∈ wG := wG_of (List.mem_append_right _ (List.mem_append_right _ (List.mem_append_right _ (List.mem_append_left _ (List.mem_of_getElem? (i := 32) rfl))))) rfl
theorem wd_514 : Cond.instanceMethod ⟨"SuitByTailors$OrderSearch", "isPlaced", "(I)Z"⟩ ∈ wG := wG_of (List.mem_append_right _ (List.mem_append_right _ (List.mem_append_right _ (List.mem_append_left _ (List.mem_of_getElem? (i := 34) rfl))))) rfl
theorem wd_515 : Cond.code ⟨"SuitByTailors$OrderSearch", "isPlaced", "(I)Z"⟩ prog_5_method_6_code 2 (some .boolean) ∈ wG := wG_of (List.mem_append_right _ (List.mem_append_right _ (List.mem_append_right _ (List.mem_append_left _ (List.mem_of_getElem? (i := 35) rfl))))) rfl
theorem wd_516 : Cond.methodLink "SuitByTailors$OrderSearch" 48 ⟨"SuitByTailors$OrderSearch", "tryPart", "(LSuitByTailors$Plan;III)V"⟩ ∈ wG := wG_of (List.mem_append_right _ (List.mem_append_right _ (List.mem_append_right _ (List.mem_append_left _ (List.mem_of_getElem? (i := 36) rfl))))) rfl
theorem wd_518 : Cond.instanceMethod ⟨"SuitByTailors$OrderSearch", "tryPart", "(LSuitByTailors$Plan;III)V"⟩ ∈ wG := wG_of (List.mem_append_right _ (List.mem_append_right _ (List.mem_append_right _ (List.mem_append_left _ (List.mem_of_getElem? (i := 38) rfl))))) rfl
theorem wd_519 : Cond.code ⟨"SuitByTailors$OrderSearch", "tryPart", "(LSuitByTailors$Plan;III)V"⟩ prog_5_method_4_code 6 none ∈ wG := wG_of (List.mem_append_right _ (List.mem_append_right _ (List.mem_append_right _ (List.mem_append_left _ (List.mem_of_getElem? (i := 39) rfl))))) rfl
theorem wd_520 : Cond.methodLink "SuitByTailors$OrderSearch" 55 ⟨"SuitByTailors$Plan", "slip", "(III)I"⟩ ∈ wG := wG_of (List.mem_append_right _ (List.mem_append_right _ (List.mem_append_right _ (List.mem_append_left _ (List.mem_of_getElem? (i := 40) rfl))))) rfl
theorem wd_521 : Cond.methodLink "SuitByTailors$OrderSearch" 59 ⟨"SuitByTailors$Plan", "cutLength", "(II)I"⟩ ∈ wG := wG_of (List.mem_append_right _ (List.mem_append_right _ (List.mem_append_right _ (List.mem_append_left _ (List.mem_of_getElem? (i := 41) rfl))))) rfl
theorem wd_522 : Cond.methodLink "SuitByTailors$OrderSearch" 63 ⟨"SuitByTailors$OrderSearch", "gapsWithPlaced", "(LSuitByTailors$Plan;I)I"⟩ ∈ wG := wG_of (List.mem_append_right _ (List.mem_append_right _ (List.mem_append_right _ (List.mem_append_left _ (List.mem_of_getElem? (i := 42) rfl))))) rfl
theorem wd_524 : Cond.instanceMethod ⟨"SuitByTailors$OrderSearch", "gapsWithPlaced", "(LSuitByTailors$Plan;I)I"⟩ ∈ wG := wG_of (List.mem_append_right _ (List.mem_append_right _ (List.mem_append_right _ (List.mem_append_left _ (List.mem_of_getElem? (i := 44) rfl))))) rfl
theorem wd_525 : Cond.code ⟨"SuitByTailors$OrderSearch", "gapsWithPlaced", "(LSuitByTailors$Plan;I)I"⟩ prog_5_method_5_code 7 (some .int) ∈ wG := wG_of (List.mem_append_right _ (List.mem_append_right _ (List.mem_append_right _ (List.mem_append_left _ (List.mem_of_getElem? (i := 45) rfl))))) rfl
theorem wd_526 : Cond.methodLink "SuitByTailors$OrderSearch" 76 ⟨"SuitByTailors$Plan", "gapOf", "(I[I)I"⟩ ∈ wG := wG_of (List.mem_append_right _ (List.mem_append_right _ (List.mem_append_right _ (List.mem_append_left _ (List.mem_of_getElem? (i := 46) rfl))))) rfl
theorem wd_527 : Cond.methodLink "SuitByTailorsLaw" 63 ⟨"SuitByTailors", "bribes", "(I)I"⟩ ∈ wG := wG_of (List.mem_append_right _ (List.mem_append_right _ (List.mem_append_right _ (List.mem_append_left _ (List.mem_of_getElem? (i := 47) rfl))))) rfl
theorem wd_528 : Cond.instanceMethod ⟨"SuitByTailors", "bribes", "(I)I"⟩ ∈ wG := wG_of (List.mem_append_right _ (List.mem_append_right _ (List.mem_append_right _ (List.mem_append_left _ (List.mem_of_getElem? (i := 48) rfl))))) rfl
theorem wd_529 : Cond.selects "SuitByTailors" ⟨"SuitByTailors", "bribes", "(I)I"⟩ ⟨"SuitByTailors", "bribes", "(I)I"⟩ ∈ wG := wG_of (List.mem_append_right _ (List.mem_append_right _ (List.mem_append_right _ (List.mem_append_left _ (List.mem_of_getElem? (i := 49) rfl))))) rfl
theorem wd_530 : Cond.code ⟨"SuitByTailors", "bribes", "(I)I"⟩ prog_1_method_13_code 6 (some .int) ∈ wG := wG_of (List.mem_append_right _ (List.mem_append_right _ (List.mem_append_right _ (List.mem_append_left _ (List.mem_of_getElem? (i := 50) rfl))))) rfl
theorem wd_531 : Cond.methodLink "SuitByTailors" 195 ⟨"SuitByTailors$Plan", "sumOfSet", "([II)I"⟩ ∈ wG := wG_of (List.mem_append_right _ (List.mem_append_right _ (List.mem_append_right _ (List.mem_append_left _ (List.mem_of_getElem? (i := 51) rfl))))) rfl
theorem wd_532 : Cond.instanceMethod ⟨"SuitByTailors$Plan", "sumOfSet", "([II)I"⟩ ∈ wG := wG_of (List.mem_append_right _ (List.mem_append_right _ (List.mem_append_right _ (List.mem_append_left _ (List.mem_of_getElem? (i := 52) rfl))))) rfl
theorem wd_533 : Cond.selects "SuitByTailors$Plan" ⟨"SuitByTailors$Plan", "sumOfSet", "([II)I"⟩ ⟨"SuitByTailors$Plan", "sumOfSet", "([II)I"⟩ ∈ wG := wG_of (List.mem_append_right _ (List.mem_append_right _ (List.mem_append_right _ (List.mem_append_left _ (List.mem_of_getElem? (i := 53) rfl))))) rfl
theorem wd_534 : Cond.code ⟨"SuitByTailors$Plan", "sumOfSet", "([II)I"⟩ prog_7_method_19_code 5 (some .int) ∈ wG := wG_of (List.mem_append_right _ (List.mem_append_right _ (List.mem_append_right _ (List.mem_append_left _ (List.mem_of_getElem? (i := 54) rfl))))) rfl
theorem wd_535 : Cond.methodLink "SuitByTailors" 199 ⟨"SuitByTailors", "isClosedByBribing", "(I)Z"⟩ ∈ wG := wG_of (List.mem_append_right _ (List.mem_append_right _ (List.mem_append_right _ (List.mem_append_left _ (List.mem_of_getElem? (i := 55) rfl))))) rfl
theorem wd_537 : Cond.instanceMethod ⟨"SuitByTailors", "isClosedByBribing", "(I)Z"⟩ ∈ wG := wG_of (List.mem_append_right _ (List.mem_append_right _ (List.mem_append_right _ (List.mem_append_left _ (List.mem_of_getElem? (i := 57) rfl))))) rfl
theorem wd_538 : Cond.code ⟨"SuitByTailors", "isClosedByBribing", "(I)Z"⟩ prog_1_method_33_code 3 (some .boolean) ∈ wG := wG_of (List.mem_append_right _ (List.mem_append_right _ (List.mem_append_right _ (List.mem_append_left _ (List.mem_of_getElem? (i := 58) rfl))))) rfl
theorem wd_539 : Cond.methodLink "SuitByTailorsLaw" 67 ⟨"SuitByTailors", "closed", "(I)I"⟩ ∈ wG := wG_of (List.mem_append_right _ (List.mem_append_right _ (List.mem_append_right _ (List.mem_append_left _ (List.mem_of_getElem? (i := 59) rfl))))) rfl
theorem wd_540 : Cond.instanceMethod ⟨"SuitByTailors", "closed", "(I)I"⟩ ∈ wG := wG_of (List.mem_append_right _ (List.mem_append_right _ (List.mem_append_right _ (List.mem_append_left _ (List.mem_of_getElem? (i := 60) rfl))))) rfl
theorem wd_541 : Cond.selects "SuitByTailors" ⟨"SuitByTailors", "closed", "(I)I"⟩ ⟨"SuitByTailors", "closed", "(I)I"⟩ ∈ wG := wG_of (List.mem_append_right _ (List.mem_append_right _ (List.mem_append_right _ (List.mem_append_left _ (List.mem_of_getElem? (i := 61) rfl))))) rfl
theorem wd_542 : Cond.code ⟨"SuitByTailors", "closed", "(I)I"⟩ prog_1_method_14_code 4 (some .int) ∈ wG := wG_of (List.mem_append_right _ (List.mem_append_right _ (List.mem_append_right _ (List.mem_append_left _ (List.mem_of_getElem? (i := 62) rfl))))) rfl
theorem wd_543 : Cond.methodLink "SuitByTailors" 202 ⟨"SuitByTailors", "levelSeams", "()V"⟩ ∈ wG := wG_of (List.mem_append_right _ (List.mem_append_right _ (List.mem_append_right _ (List.mem_append_left _ (List.mem_of_getElem? (i := 63) rfl))))) rfl
theorem wd_545 : Cond.instanceMethod ⟨"SuitByTailors", "levelSeams", "()V"⟩ ∈ wG := wG_of (List.mem_append_right _ (List.mem_append_right _ (List.mem_append_right _ (List.mem_append_left _ (List.mem_of_getElem? (i := 65) rfl))))) rfl
theorem wd_546 : Cond.code ⟨"SuitByTailors", "levelSeams", "()V"⟩ prog_1_method_34_code 4 none ∈ wG := wG_of (List.mem_append_right _ (List.mem_append_right _ (List.mem_append_right _ (List.mem_append_left _ (List.mem_of_getElem? (i := 66) rfl))))) rfl
theorem wd_547 : Cond.methodLink "SuitByTailors" 258 ⟨"java/lang/Math", "min", "(II)I"⟩ ∈ wG := wG_of (List.mem_append_right _ (List.mem_append_right _ (List.mem_append_right _ (List.mem_append_left _ (List.mem_of_getElem? (i := 67) rfl))))) rfl
theorem wd_548 : Cond.methodLink "SuitByTailorsLaw" 71 ⟨"SuitByTailors", "seen", "(III)I"⟩ ∈ wG := wG_of (List.mem_append_right _ (List.mem_append_right _ (List.mem_append_right _ (List.mem_append_left _ (List.mem_of_getElem? (i := 68) rfl))))) rfl
theorem wd_549 : Cond.instanceMethod ⟨"SuitByTailors", "seen", "(III)I"⟩ ∈ wG := wG_of (List.mem_append_right _ (List.mem_append_right _ (List.mem_append_right _ (List.mem_append_left _ (List.mem_of_getElem? (i := 69) rfl))))) rfl
theorem wd_550 : Cond.selects "SuitByTailors" ⟨"SuitByTailors", "seen", "(III)I"⟩ ⟨"SuitByTailors", "seen", "(III)I"⟩ ∈ wG := wG_of (List.mem_append_right _ (List.mem_append_right _ (List.mem_append_right _ (List.mem_append_left _ (List.mem_of_getElem? (i := 70) rfl))))) rfl
theorem wd_551 : Cond.code ⟨"SuitByTailors", "seen", "(III)I"⟩ prog_1_method_15_code 4 (some .int) ∈ wG := wG_of (List.mem_append_right _ (List.mem_append_right _ (List.mem_append_right _ (List.mem_append_left _ (List.mem_of_getElem? (i := 71) rfl))))) rfl
theorem wd_552 : Cond.methodLink "SuitByTailors" 205 ⟨"SuitByTailors$Plan", "hasTailor", "(I)Z"⟩ ∈ wG := wG_of (List.mem_append_right _ (List.mem_append_right _ (List.mem_append_right _ (List.mem_append_left _ (List.mem_of_getElem? (i := 72) rfl))))) rfl
theorem wd_553 : Cond.methodLink "SuitByTailors" 208 ⟨"SuitByTailors", "isLength", "(I)Z"⟩ ∈ wG := wG_of (List.mem_append_right _ (List.mem_append_right _ (List.mem_append_right _ (List.mem_append_left _ (List.mem_of_getElem? (i := 73) rfl))))) rfl
theorem wd_554 : Cond.static ⟨"SuitByTailors", "isLength", "(I)Z"⟩ ∈ wG := wG_of (List.mem_append_right _ (List.mem_append_right _ (List.mem_append_right _ (List.mem_append_left _ (List.mem_of_getElem? (i := 74) rfl))))) rfl
theorem wd_555 : Cond.code ⟨"SuitByTailors", "isLength", "(I)Z"⟩ prog_1_method_28_code 1 (some .boolean) ∈ wG := wG_of (List.mem_append_right _ (List.mem_append_right _ (List.mem_append_right _ (List.mem_append_left _ (List.mem_of_getElem? (i := 75) rfl))))) rfl
theorem wd_556 : Cond.methodLink "SuitByTailors" 211 ⟨"SuitByTailors$Sightings", "add", "(III)V"⟩ ∈ wG := wG_of (List.mem_append_right _ (List.mem_append_right _ (List.mem_append_right _ (List.mem_append_left _ (List.mem_of_getElem? (i := 76) rfl))))) rfl
theorem wd_557 : Cond.instanceMethod ⟨"SuitByTailors$Sightings", "add", "(III)V"⟩ ∈ wG := wG_of (List.mem_append_right _ (List.mem_append_right _ (List.mem_append_right _ (List.mem_append_left _ (List.mem_of_getElem? (i := 77) rfl))))) rfl
theorem wd_558 : Cond.selects "SuitByTailors$Sightings" ⟨"SuitByTailors$Sightings", "add", "(III)V"⟩ ⟨"SuitByTailors$Sightings", "add", "(III)V"⟩ ∈ wG := wG_of (List.mem_append_right _ (List.mem_append_right _ (List.mem_append_right _ (List.mem_append_left _ (List.mem_of_getElem? (i := 78) rfl))))) rfl
theorem wd_559 : Cond.code ⟨"SuitByTailors$Sightings", "add", "(III)V"⟩ prog_8_method_2_code 4 none ∈ wG := wG_of (List.mem_append_right _ (List.mem_append_right _ (List.mem_append_right _ (List.mem_append_left _ (List.mem_of_getElem? (i := 79) rfl))))) rfl
theorem wd_560 : Cond.methodLink "SuitByTailorsLaw" 76 ⟨"SuitByTailors", "forget", "()I"⟩ ∈ wG := wG_of (List.mem_append_right _ (List.mem_append_right _ (List.mem_append_right _ (List.mem_append_left _ (List.mem_of_getElem? (i := 80) rfl))))) rfl
theorem wd_561 : Cond.instanceMethod ⟨"SuitByTailors", "forget", "()I"⟩ ∈ wG := wG_of (List.mem_append_right _ (List.mem_append_right _ (List.mem_append_right _ (List.mem_append_left _ (List.mem_of_getElem? (i := 81) rfl))))) rfl
theorem wd_562 : Cond.selects "SuitByTailors" ⟨"SuitByTailors", "forget", "()I"⟩ ⟨"SuitByTailors", "forget", "()I"⟩ ∈ wG := wG_of (List.mem_append_right _ (List.mem_append_right _ (List.mem_append_right _ (List.mem_append_left _ (List.mem_of_getElem? (i := 82) rfl))))) rfl
theorem wd_563 : Cond.code ⟨"SuitByTailors", "forget", "()I"⟩ prog_1_method_16_code 2 (some .int) ∈ wG := wG_of (List.mem_append_right _ (List.mem_append_right _ (List.mem_append_right _ (List.mem_append_left _ (List.mem_of_getElem? (i := 83) rfl))))) rfl
theorem wd_564 : Cond.methodLink "SuitByTailorsLaw" 80 ⟨"SuitByTailors", "inch", "(II)I"⟩ ∈ wG := wG_of (List.mem_append_right _ (List.mem_append_right _ (List.mem_append_right _ (List.mem_append_left _ (List.mem_of_getElem? (i := 84) rfl))))) rfl
theorem wd_565 : Cond.instanceMethod ⟨"SuitByTailors", "inch", "(II)I"⟩ ∈ wG := wG_of (List.mem_append_right _ (List.mem_append_right _ (List.mem_append_right _ (List.mem_append_left _ (List.mem_of_getElem? (i := 85) rfl))))) rfl
theorem wd_566 : Cond.selects "SuitByTailors" ⟨"SuitByTailors", "inch", "(II)I"⟩ ⟨"SuitByTailors", "inch", "(II)I"⟩ ∈ wG := wG_of (List.mem_append_right _ (List.mem_append_right _ (List.mem_append_right _ (List.mem_append_left _ (List.mem_of_getElem? (i := 86) rfl))))) rfl
theorem wd_567 : Cond.code ⟨"SuitByTailors", "inch", "(II)I"⟩ prog_1_method_17_code 6 (some .int) ∈ wG := wG_of (List.mem_append_right _ (List.mem_append_right _ (List.mem_append_right _ (List.mem_append_left _ (List.mem_of_getElem? (i := 87) rfl))))) rfl
theorem wd_568 : Cond.methodLink "SuitByTailors" 215 ⟨"SuitByTailors$Sightings", "agreeWith", "(II)Z"⟩ ∈ wG := wG_of (List.mem_append_right _ (List.mem_append_right _ (List.mem_append_right _ (List.mem_append_left _ (List.mem_of_getElem? (i := 88) rfl))))) rfl
theorem wd_569 : Cond.instanceMethod ⟨"SuitByTailors$Sightings", "agreeWith", "(II)Z"⟩ ∈ wG := wG_of (List.mem_append_right _ (List.mem_append_right _ (List.mem_append_right _ (List.mem_append_left _ (List.mem_of_getElem? (i := 89) rfl))))) rfl
theorem wd_570 : Cond.selects "SuitByTailors$Sightings" ⟨"SuitByTailors$Sightings", "agreeWith", "(II)Z"⟩ ⟨"SuitByTailors$Sightings", "agreeWith", "(II)Z"⟩ ∈ wG := wG_of (List.mem_append_right _ (List.mem_append_right _ (List.mem_append_right _ (List.mem_append_left _ (List.mem_of_getElem? (i := 90) rfl))))) rfl
theorem wd_571 : Cond.code ⟨"SuitByTailors$Sightings", "agreeWith", "(II)Z"⟩ prog_8_method_3_code 4 (some .boolean) ∈ wG := wG_of (List.mem_append_right _ (List.mem_append_right _ (List.mem_append_right _ (List.mem_append_left _ (List.mem_of_getElem? (i := 91) rfl))))) rfl
theorem wd_572 : Cond.methodLink "SuitByTailors$Sightings" 25 ⟨"SuitByTailors$Plan", "byInch", "(II)I"⟩ ∈ wG := wG_of (List.mem_append_right _ (List.mem_append_right _ (List.mem_append_right _ (List.mem_append_left _ (List.mem_of_getElem? (i := 92) rfl))))) rfl
theorem wd_573 : Cond.methodLink "SuitByTailorsLaw" 84 ⟨"SuitByTailors", "added", "(II)I"⟩ ∈ wG := wG_of (List.mem_append_right _ (List.mem_append_right _ (List.mem_append_right _ (List.mem_append_left _ (List.mem_of_getElem? (i := 93) rfl))))) rfl
theorem wd_574 : Cond.instanceMethod ⟨"SuitByTailors", "added", "(II)I"⟩ ∈ wG := wG_of (List.mem_append_right _ (List.mem_append_right _ (List.mem_append_right _ (List.mem_append_left _ (List.mem_of_getElem? (i := 94) rfl))))) rfl
theorem wd_575 : Cond.selects "SuitByTailors" ⟨"SuitByTailors", "added", "(II)I"⟩ ⟨"SuitByTailors", "added", "(II)I"⟩ ∈ wG := wG_of (List.mem_append_right _ (List.mem_append_right _ (List.mem_append_right _ (List.mem_append_left _ (List.mem_of_getElem? (i := 95) rfl))))) rfl
theorem wd_576 : Cond.code ⟨"SuitByTailors", "added", "(II)I"⟩ prog_1_method_18_code 4 (some .int) ∈ wG := wG_of (List.mem_append_right _ (List.mem_append_right _ (List.mem_append_right _ (List.mem_append_left _ (List.mem_of_getElem? (i := 96) rfl))))) rfl
theorem wd_577 : Cond.methodLink "SuitByTailorsLaw" 88 ⟨"SuitByTailors", "bolts", "(I)I"⟩ ∈ wG := wG_of (List.mem_append_right _ (List.mem_append_right _ (List.mem_append_right _ (List.mem_append_left _ (List.mem_of_getElem? (i := 97) rfl))))) rfl
theorem wd_578 : Cond.instanceMethod ⟨"SuitByTailors", "bolts", "(I)I"⟩ ∈ wG := wG_of (List.mem_append_right _ (List.mem_append_right _ (List.mem_append_right _ (List.mem_append_left _ (List.mem_of_getElem? (i := 98) rfl))))) rfl
theorem wd_579 : Cond.selects "SuitByTailors" ⟨"SuitByTailors", "bolts", "(I)I"⟩ ⟨"SuitByTailors", "bolts", "(I)I"⟩ ∈ wG := wG_of (List.mem_append_right _ (List.mem_append_right _ (List.mem_append_right _ (List.mem_append_left _ (List.mem_of_getElem? (i := 99) rfl))))) rfl
theorem wd_580 : Cond.code ⟨"SuitByTailors", "bolts", "(I)I"⟩ prog_1_method_19_code 3 (some .int) ∈ wG := wG_of (List.mem_append_right _ (List.mem_append_right _ (List.mem_append_right _ (List.mem_append_left _ (List.mem_of_getElem? (i := 100) rfl))))) rfl
theorem wd_581 : Cond.methodLink "SuitByTailors" 219 ⟨"SuitByTailors$BoltSearch", "search", "(LSuitByTailors$Plan;[I)I"⟩ ∈ wG := wG_of (List.mem_append_right _ (List.mem_append_right _ (List.mem_append_right _ (List.mem_append_left _ (List.mem_of_getElem? (i := 101) rfl))))) rfl
theorem wd_582 : Cond.instanceMethod ⟨"SuitByTailors$BoltSearch", "search", "(LSuitByTailors$Plan;[I)I"⟩ ∈ wG := wG_of (List.mem_append_right _ (List.mem_append_right _ (List.mem_append_right _ (List.mem_append_left _ (List.mem_of_getElem? (i := 102) rfl))))) rfl
theorem wd_583 : Cond.selects "SuitByTailors$BoltSearch" ⟨"SuitByTailors$BoltSearch", "search", "(LSuitByTailors$Plan;[I)I"⟩ ⟨"SuitByTailors$BoltSearch", "search", "(LSuitByTailors$Plan;[I)I"⟩ ∈ wG := wG_of (List.mem_append_right _ (List.mem_append_right _ (List.mem_append_right _ (List.mem_append_left _ (List.mem_of_getElem? (i := 103) rfl))))) rfl
theorem wd_584 : Cond.code ⟨"SuitByTailors$BoltSearch", "search", "(LSuitByTailors$Plan;[I)I"⟩ prog_2_method_2_code 4 (some .int) ∈ wG := wG_of (List.mem_append_right _ (List.mem_append_right _ (List.mem_append_right _ (List.mem_append_left _ (List.mem_of_getElem? (i := 104) rfl))))) rfl
theorem wd_585 : Cond.methodLink "SuitByTailors$BoltSearch" 27 ⟨"SuitByTailors$BoltSearch", "findsBolts", "(LSuitByTailors$Plan;[III)Z"⟩ ∈ wG := wG_of (List.mem_append_right _ (List.mem_append_right _ (List.mem_append_right _ (List.mem_append_left _ (List.mem_of_getElem? (i := 105) rfl))))) rfl
theorem wd_587 : Cond.instanceMethod ⟨"SuitByTailors$BoltSearch", "findsBolts", "(LSuitByTailors$Plan;[III)Z"⟩ ∈ wG := wG_of (List.mem_append_right _ (List.mem_append_right _ (List.mem_append_right _ (List.mem_append_left _ (List.mem_of_getElem? (i := 107) rfl))))) rfl
theorem wd_588 : Cond.code ⟨"SuitByTailors$BoltSearch", "findsBolts", "(LSuitByTailors$Plan;[III)Z"⟩ prog_2_method_3_code 6 (some .boolean) ∈ wG := wG_of (List.mem_append_right _ (List.mem_append_right _ (List.mem_append_right _ (List.mem_append_left _ (List.mem_of_getElem? (i := 108) rfl))))) rfl
theorem wd_589 : Cond.methodLink "SuitByTailors$BoltSearch" 31 ⟨"SuitByTailors$BoltSearch", "findsRest", "(LSuitByTailors$Plan;[III)Z"⟩ ∈ wG := wG_of (List.mem_append_right _ (List.mem_append_right _ (List.mem_append_right _ (List.mem_append_left _ (List.mem_of_getElem? (i := 109) rfl))))) rfl
theorem wd_591 : Cond.instanceMethod ⟨"SuitByTailors$BoltSearch", "findsRest", "(LSuitByTailors$Plan;[III)Z"⟩ ∈ wG := wG_of (List.mem_append_right _ (List.mem_append_right _ (List.mem_append_right _ (List.mem_append_left _ (List.mem_of_getElem? (i := 111) rfl))))) rfl
theorem wd_592 : Cond.code ⟨"SuitByTailors$BoltSearch", "findsRest", "(LSuitByTailors$Plan;[III)Z"⟩ prog_2_method_4_code 7 (some .boolean) ∈ wG := wG_of (List.mem_append_right _ (List.mem_append_right _ (List.mem_append_right _ (List.mem_append_left _ (List.mem_of_getElem? (i := 112) rfl))))) rfl
theorem wd_593 : Cond.methodLink "SuitByTailors$BoltSearch" 37 ⟨"java/lang/Math", "max", "(II)I"⟩ ∈ wG := wG_of (List.mem_append_right _ (List.mem_append_right _ (List.mem_append_right _ (List.mem_append_left _ (List.mem_of_getElem? (i := 113) rfl))))) rfl
theorem wd_594 : Cond.methodLink "SuitByTailorsLaw" 92 ⟨"SuitByTailors", "coat", "(I)I"⟩ ∈ wG := wG_of (List.mem_append_right _ (List.mem_append_right _ (List.mem_append_right _ (List.mem_append_left _ (List.mem_of_getElem? (i := 114) rfl))))) rfl
theorem wd_595 : Cond.instanceMethod ⟨"SuitByTailors", "coat", "(I)I"⟩ ∈ wG := wG_of (List.mem_append_right _ (List.mem_append_right _ (List.mem_append_right _ (List.mem_append_left _ (List.mem_of_getElem? (i := 115) rfl))))) rfl
theorem wd_596 : Cond.selects "SuitByTailors" ⟨"SuitByTailors", "coat", "(I)I"⟩ ⟨"SuitByTailors", "coat", "(I)I"⟩ ∈ wG := wG_of (List.mem_append_right _ (List.mem_append_right _ (List.mem_append_right _ (List.mem_append_left _ (List.mem_of_getElem? (i := 116) rfl))))) rfl
theorem wd_597 : Cond.code ⟨"SuitByTailors", "coat", "(I)I"⟩ prog_1_method_20_code 9 (some .int) ∈ wG := wG_of (List.mem_append_right _ (List.mem_append_right _ (List.mem_append_right _ (List.mem_append_left _ (List.mem_of_getElem? (i := 117) rfl))))) rfl
theorem wd_598 : Cond.methodLink "SuitByTailors" 225 ⟨"java/lang/Math", "abs", "(I)I"⟩ ∈ wG := wG_of (List.mem_append_right _ (List.mem_append_right _ (List.mem_append_right _ (List.mem_append_left _ (List.mem_of_getElem? (i := 118) rfl))))) rfl
theorem wd_599 : Cond.methodLink "SuitByTailorsLaw" 96 ⟨"SuitByTailors", "pin", "(I)I"⟩ ∈ wG := wG_of (List.mem_append_right _ (List.mem_append_right _ (List.mem_append_right _ (List.mem_append_left _ (List.mem_of_getElem? (i := 119) rfl))))) rfl
theorem wd_600 : Cond.instanceMethod ⟨"SuitByTailors", "pin", "(I)I"⟩ ∈ wG := wG_of (List.mem_append_right _ (List.mem_append_right _ (List.mem_append_right _ (List.mem_append_left _ (List.mem_of_getElem? (i := 120) rfl))))) rfl
theorem wd_601 : Cond.selects "SuitByTailors" ⟨"SuitByTailors", "pin", "(I)I"⟩ ⟨"SuitByTailors", "pin", "(I)I"⟩ ∈ wG := wG_of (List.mem_append_right _ (List.mem_append_right _ (List.mem_append_right _ (List.mem_append_left _ (List.mem_of_getElem? (i := 121) rfl))))) rfl
theorem wd_602 : Cond.code ⟨"SuitByTailors", "pin", "(I)I"⟩ prog_1_method_21_code 4 (some .int) ∈ wG := wG_of (List.mem_append_right _ (List.mem_append_right _ (List.mem_append_right _ (List.mem_append_left _ (List.mem_of_getElem? (i := 122) rfl))))) rfl
theorem wd_603 : Cond.methodLink "SuitByTailors" 236 ⟨"SuitByTailors$Pins", "countIn", "(I)I"⟩ ∈ wG := wG_of (List.mem_append_right _ (List.mem_append_right _ (List.mem_append_right _ (List.mem_append_left _ (List.mem_of_getElem? (i := 123) rfl))))) rfl
theorem wd_604 : Cond.instanceMethod ⟨"SuitByTailors$Pins", "countIn", "(I)I"⟩ ∈ wG := wG_of (List.mem_append_right _ (List.mem_append_right _ (List.mem_append_right _ (List.mem_append_left _ (List.mem_of_getElem? (i := 124) rfl))))) rfl
theorem wd_605 : Cond.selects "SuitByTailors$Pins" ⟨"SuitByTailors$Pins", "countIn", "(I)I"⟩ ⟨"SuitByTailors$Pins", "countIn", "(I)I"⟩ ∈ wG := wG_of (List.mem_append_right _ (List.mem_append_right _ (List.mem_append_right _ (List.mem_append_left _ (List.mem_of_getElem? (i := 125) rfl))))) rfl
theorem wd_606 : Cond.code ⟨"SuitByTailors$Pins", "countIn", "(I)I"⟩ prog_6_method_3_code 4 (some .int) ∈ wG := wG_of (List.mem_append_right _ (List.mem_append_right _ (List.mem_append_right _ (List.mem_append_left _ (List.mem_of_getElem? (i := 126) rfl))))) rfl
theorem wd_607 : Cond.methodLink "SuitByTailors" 239 ⟨"SuitByTailors$Pins", "add", "(II)V"⟩ ∈ wG := wG_of (List.mem_append_right _ (List.mem_append_right _ (List.mem_append_right _ (List.mem_append_left _ (List.mem_of_getElem? (i := 127) rfl))))) rfl
theorem wd_608 : Cond.instanceMethod ⟨"SuitByTailors$Pins", "add", "(II)V"⟩ ∈ wG := wG_of (List.mem_append_right _ (List.mem_append_right _ (List.mem_append_right _ (List.mem_append_left _ (List.mem_of_getElem? (i := 128) rfl))))) rfl
theorem wd_609 : Cond.selects "SuitByTailors$Pins" ⟨"SuitByTailors$Pins", "add", "(II)V"⟩ ⟨"SuitByTailors$Pins", "add", "(II)V"⟩ ∈ wG := wG_of (List.mem_append_right _ (List.mem_append_right _ (List.mem_append_right _ (List.mem_append_left _ (List.mem_of_getElem? (i := 129) rfl))))) rfl
theorem wd_610 : Cond.code ⟨"SuitByTailors$Pins", "add", "(II)V"⟩ prog_6_method_2_code 3 none ∈ wG := wG_of (List.mem_append_right _ (List.mem_append_right _ (List.mem_append_right _ (List.mem_append_left _ (List.mem_of_getElem? (i := 130) rfl))))) rfl
theorem wd_611 : Cond.methodLink "SuitByTailorsLaw" 100 ⟨"SuitByTailors", "noPins", "()I"⟩ ∈ wG := wG_of (List.mem_append_right _ (List.mem_append_right _ (List.mem_append_right _ (List.mem_append_left _ (List.mem_of_getElem? (i := 131) rfl))))) rfl
theorem wd_612 : Cond.instanceMethod ⟨"SuitByTailors", "noPins", "()I"⟩ ∈ wG := wG_of (List.mem_append_right _ (List.mem_append_right _ (List.mem_append_right _ (List.mem_append_left _ (List.mem_of_getElem? (i := 132) rfl))))) rfl
theorem wd_613 : Cond.selects "SuitByTailors" ⟨"SuitByTailors", "noPins", "()I"⟩ ⟨"SuitByTailors", "noPins", "()I"⟩ ∈ wG := wG_of (List.mem_append_right _ (List.mem_append_right _ (List.mem_append_right _ (List.mem_append_left _ (List.mem_of_getElem? (i := 133) rfl))))) rfl
theorem wd_614 : Cond.code ⟨"SuitByTailors", "noPins", "()I"⟩ prog_1_method_22_code 2 (some .int) ∈ wG := wG_of (List.mem_append_right _ (List.mem_append_right _ (List.mem_append_right _ (List.mem_append_left _ (List.mem_of_getElem? (i := 134) rfl))))) rfl
theorem wd_615 : Cond.methodLink "SuitByTailorsLaw" 104 ⟨"SuitByTailors", "thumb", "(I)I"⟩ ∈ wG := wG_of (List.mem_append_right _ (List.mem_append_right _ (List.mem_append_right _ (List.mem_append_left _ (List.mem_of_getElem? (i := 135) rfl))))) rfl
theorem wd_616 : Cond.instanceMethod ⟨"SuitByTailors", "thumb", "(I)I"⟩ ∈ wG := wG_of (List.mem_append_right _ (List.mem_append_right _ (List.mem_append_right _ (List.mem_append_left _ (List.mem_of_getElem? (i := 136) rfl))))) rfl
theorem wd_617 : Cond.selects "SuitByTailors" ⟨"SuitByTailors", "thumb", "(I)I"⟩ ⟨"SuitByTailors", "thumb", "(I)I"⟩ ∈ wG := wG_of (List.mem_append_right _ (List.mem_append_right _ (List.mem_append_right _ (List.mem_append_left _ (List.mem_of_getElem? (i := 137) rfl))))) rfl
theorem wd_618 : Cond.code ⟨"SuitByTailors", "thumb", "(I)I"⟩ prog_1_method_23_code 2 (some .int) ∈ wG := wG_of (List.mem_append_right _ (List.mem_append_right _ (List.mem_append_right _ (List.mem_append_left _ (List.mem_of_getElem? (i := 138) rfl))))) rfl
theorem wd_619 : Cond.methodLink "SuitByTailorsLaw" 108 ⟨"SuitByTailors", "year", "(III)I"⟩ ∈ wG := wG_of (List.mem_append_right _ (List.mem_append_right _ (List.mem_append_right _ (List.mem_append_left _ (List.mem_of_getElem? (i := 139) rfl))))) rfl
theorem wd_620 : Cond.instanceMethod ⟨"SuitByTailors", "year", "(III)I"⟩ ∈ wG := wG_of (List.mem_append_right _ (List.mem_append_right _ (List.mem_append_right _ (List.mem_append_left _ (List.mem_of_getElem? (i := 140) rfl))))) rfl
theorem wd_621 : Cond.selects "SuitByTailors" ⟨"SuitByTailors", "year", "(III)I"⟩ ⟨"SuitByTailors", "year", "(III)I"⟩ ∈ wG := wG_of (List.mem_append_right _ (List.mem_append_right _ (List.mem_append_right _ (List.mem_append_left _ (List.mem_of_getElem? (i := 141) rfl))))) rfl
theorem wd_622 : Cond.code ⟨"SuitByTailors", "year", "(III)I"⟩ prog_1_method_24_code 7 (some .int) ∈ wG := wG_of (List.mem_append_right _ (List.mem_append_right _ (List.mem_append_right _ (List.mem_append_left _ (List.mem_of_getElem? (i := 142) rfl))))) rfl
theorem wd_623 : Cond.methodLink "SuitByTailors" 242 ⟨"SuitByTailors", "cutByBoy", "(I)V"⟩ ∈ wG := wG_of (List.mem_append_right _ (List.mem_append_right _ (List.mem_append_right _ (List.mem_append_left _ (List.mem_of_getElem? (i := 143) rfl))))) rfl
theorem wd_625 : Cond.instanceMethod ⟨"SuitByTailors", "cutByBoy", "(I)V"⟩ ∈ wG := wG_of (List.mem_append_right _ (List.mem_append_right _ (List.mem_append_right _ (List.mem_append_left _ (List.mem_of_getElem? (i := 145) rfl))))) rfl
theorem wd_626 : Cond.code ⟨"SuitByTailors", "cutByBoy", "(I)V"⟩ prog_1_method_32_code 3 none ∈ wG := wG_of (List.mem_append_right _ (List.mem_append_right _ (List.mem_append_right _ (List.mem_append_left _ (List.mem_of_getElem? (i := 146) rfl))))) rfl
theorem wd_627 : Cond.methodLink "SuitByTailorsLaw" 112 ⟨"SuitByTailors", "keep", "()I"⟩ ∈ wG := wG_of (List.mem_append_right _ (List.mem_append_right _ (List.mem_append_right _ (List.mem_append_left _ (List.mem_of_getElem? (i := 147) rfl))))) rfl
theorem wd_628 : Cond.instanceMethod ⟨"SuitByTailors", "keep", "()I"⟩ ∈ wG := wG_of (List.mem_append_right _ (List.mem_append_right _ (List.mem_append_right _ (List.mem_append_left _ (List.mem_of_getElem? (i := 148) rfl))))) rfl
theorem wd_629 : Cond.selects "SuitByTailors" ⟨"SuitByTailors", "keep", "()I"⟩ ⟨"SuitByTailors", "keep", "()I"⟩ ∈ wG := wG_of (List.mem_append_right _ (List.mem_append_right _ (List.mem_append_right _ (List.mem_append_left _ (List.mem_of_getElem? (i := 149) rfl))))) rfl
theorem wd_630 : Cond.code ⟨"SuitByTailors", "keep", "()I"⟩ prog_1_method_25_code 1 (some .int) ∈ wG := wG_of (List.mem_append_right _ (List.mem_append_right _ (List.mem_append_right _ (List.mem_append_left _ (List.mem_of_getElem? (i := 150) rfl))))) rfl
theorem wd_631 : Cond.methodLink "SuitByTailorsLaw" 116 ⟨"SuitByTailors", "back", "()I"⟩ ∈ wG := wG_of (List.mem_append_right _ (List.mem_append_right _ (List.mem_append_right _ (List.mem_append_left _ (List.mem_of_getElem? (i := 151) rfl))))) rfl
theorem wd_632 : Cond.instanceMethod ⟨"SuitByTailors", "back", "()I"⟩ ∈ wG := wG_of (List.mem_append_right _ (List.mem_append_right _ (List.mem_append_right _ (List.mem_append_left _ (List.mem_of_getElem? (i := 152) rfl))))) rfl
theorem wd_633 : Cond.selects "SuitByTailors" ⟨"SuitByTailors", "back", "()I"⟩ ⟨"SuitByTailors", "back", "()I"⟩ ∈ wG := wG_of (List.mem_append_right _ (List.mem_append_right _ (List.mem_append_right _ (List.mem_append_left _ (List.mem_of_getElem? (i := 153) rfl))))) rfl
theorem wd_634 : Cond.code ⟨"SuitByTailors", "back", "()I"⟩ prog_1_method_26_code 1 (some .int) ∈ wG := wG_of (List.mem_append_right _ (List.mem_append_right _ (List.mem_append_right _ (List.mem_append_left _ (List.mem_of_getElem? (i := 154) rfl))))) rfl
theorem wd_635 : Cond.methodLink "SuitByTailorsLaw" 120 ⟨"SuitByTailors", "count", "(I)I"⟩ ∈ wG := wG_of (List.mem_append_right _ (List.mem_append_right _ (List.mem_append_right _ (List.mem_append_left _ (List.mem_of_getElem? (i := 155) rfl))))) rfl
theorem wd_636 : Cond.instanceMethod ⟨"SuitByTailors", "count", "(I)I"⟩ ∈ wG := wG_of (List.mem_append_right _ (List.mem_append_right _ (List.mem_append_right _ (List.mem_append_left _ (List.mem_of_getElem? (i := 156) rfl))))) rfl
theorem wd_637 : Cond.selects "SuitByTailors" ⟨"SuitByTailors", "count", "(I)I"⟩ ⟨"SuitByTailors", "count", "(I)I"⟩ ∈ wG := wG_of (List.mem_append_right _ (List.mem_append_right _ (List.mem_append_right _ (List.mem_append_left _ (List.mem_of_getElem? (i := 157) rfl))))) rfl
theorem wd_638 : Cond.code ⟨"SuitByTailors", "count", "(I)I"⟩ prog_1_method_27_code 2 (some .int) ∈ wG := wG_of (List.mem_append_right _ (List.mem_append_right _ (List.mem_append_right _ (List.mem_append_left _ (List.mem_of_getElem? (i := 158) rfl))))) rfl
theorem wd_639 : Cond.classLink "SuitByTailorsLaw" 10 "SuitByTailorsModel" ∈ wG := wG_of (List.mem_append_right _ (List.mem_append_right _ (List.mem_append_right _ (List.mem_append_left _ (List.mem_of_getElem? (i := 159) rfl))))) rfl
theorem wd_640 : Cond.instantiable "SuitByTailorsModel" 23 ∈ wG := wG_of (List.mem_append_right _ (List.mem_append_right _ (List.mem_append_right _ (List.mem_append_left _ (List.mem_of_getElem? (i := 160) rfl))))) rfl
theorem wd_641 : Cond.methodLink "SuitByTailorsLaw" 12 ⟨"SuitByTailorsModel", "<init>", "()V"⟩ ∈ wG := wG_of (List.mem_append_right _ (List.mem_append_right _ (List.mem_append_right _ (List.mem_append_left _ (List.mem_of_getElem? (i := 161) rfl))))) rfl
theorem wd_642 : Cond.instanceMethod ⟨"SuitByTailorsModel", "<init>", "()V"⟩ ∈ wG := wG_of (List.mem_append_right _ (List.mem_append_right _ (List.mem_append_right _ (List.mem_append_left _ (List.mem_of_getElem? (i := 162) rfl))))) rfl
theorem wd_643 : Cond.code ⟨"SuitByTailorsModel", "<init>", "()V"⟩ prog_11_method_1_code 1 none ∈ wG := wG_of (List.mem_append_right _ (List.mem_append_right _ (List.mem_append_right _ (List.mem_append_left _ (List.mem_of_getElem? (i := 163) rfl))))) rfl
theorem wd_644 : Cond.methodLink "SuitByTailorsModel" 1 ⟨"java/lang/Object", "<init>", "()V"⟩ ∈ wG := wG_of (List.mem_append_right _ (List.mem_append_right _ (List.mem_append_right _ (List.mem_append_left _ (List.mem_of_getElem? (i := 164) rfl))))) rfl
theorem wd_645 : Cond.methodLink "SuitByTailorsModel" 62 ⟨"SuitByTailorsModel", "begins", "()V"⟩ ∈ wG := wG_of (List.mem_append_right _ (List.mem_append_right _ (List.mem_append_right _ (List.mem_append_left _ (List.mem_of_getElem? (i := 165) rfl))))) rfl
theorem wd_647 : Cond.instanceMethod ⟨"SuitByTailorsModel", "begins", "()V"⟩ ∈ wG := wG_of (List.mem_append_right _ (List.mem_append_right _ (List.mem_append_right _ (List.mem_append_left _ (List.mem_of_getElem? (i := 167) rfl))))) rfl
theorem wd_648 : Cond.code ⟨"SuitByTailorsModel", "begins", "()V"⟩ prog_11_method_9_code 1 none ∈ wG := wG_of (List.mem_append_right _ (List.mem_append_right _ (List.mem_append_right _ (List.mem_append_left _ (List.mem_of_getElem? (i := 168) rfl))))) rfl
theorem wd_649 : Cond.methodLink "SuitByTailorsModel" 65 ⟨"SuitByTailorsModel", "takes", "()V"⟩ ∈ wG := wG_of (List.mem_append_right _ (List.mem_append_right _ (List.mem_append_right _ (List.mem_append_left _ (List.mem_of_getElem? (i := 169) rfl))))) rfl
theorem wd_651 : Cond.instanceMethod ⟨"SuitByTailorsModel", "takes", "()V"⟩ ∈ wG := wG_of (List.mem_append_right _ (List.mem_append_right _ (List.mem_append_right _ (List.mem_append_left _ (List.mem_of_getElem? (i := 171) rfl))))) rfl
theorem wd_652 : Cond.code ⟨"SuitByTailorsModel", "takes", "()V"⟩ prog_11_method_10_code 2 none ∈ wG := wG_of (List.mem_append_right _ (List.mem_append_right _ (List.mem_append_right _ (List.mem_append_left _ (List.mem_of_getElem? (i := 172) rfl))))) rfl
theorem wd_653 : Cond.fieldLink "SuitByTailorsModel" 74 "SuitByTailorsModel" "length" "I" ∈ wG := wG_of (List.mem_append_right _ (List.mem_append_right _ (List.mem_append_right _ (List.mem_append_left _ (List.mem_of_getElem? (i := 173) rfl))))) rfl
theorem wd_654 : Cond.fieldLink "SuitByTailorsModel" 7 "SuitByTailorsModel" "text" "[B" ∈ wG := wG_of (List.mem_append_right _ (List.mem_append_right _ (List.mem_append_right _ (List.mem_append_left _ (List.mem_of_getElem? (i := 174) rfl))))) rfl
theorem wd_655 : Cond.fieldLink "SuitByTailorsModel" 78 "SuitByTailorsModel" "at" "I" ∈ wG := wG_of (List.mem_append_right _ (List.mem_append_right _ (List.mem_append_right _ (List.mem_append_left _ (List.mem_of_getElem? (i := 175) rfl))))) rfl
theorem wd_656 : Cond.fieldLink "SuitByTailorsModel" 13 "SuitByTailorsModel" "told" "[I" ∈ wG := wG_of (List.mem_append_right _ (List.mem_append_right _ (List.mem_append_right _ (List.mem_append_left _ (List.mem_of_getElem? (i := 176) rfl))))) rfl
theorem wd_657 : Cond.fieldLink "SuitByTailorsModel" 17 "SuitByTailorsModel" "tailors" "[I" ∈ wG := wG_of (List.mem_append_right _ (List.mem_append_right _ (List.mem_append_right _ (List.mem_append_left _ (List.mem_of_getElem? (i := 177) rfl))))) rfl
theorem wd_658 : Cond.fieldLink "SuitByTailorsModel" 20 "SuitByTailorsModel" "inches" "[I" ∈ wG := wG_of (List.mem_append_right _ (List.mem_append_right _ (List.mem_append_right _ (List.mem_append_left _ (List.mem_of_getElem? (i := 178) rfl))))) rfl
theorem wd_659 : Cond.fieldLink "SuitByTailorsModel" 23 "SuitByTailorsModel" "parts" "[I" ∈ wG := wG_of (List.mem_append_right _ (List.mem_append_right _ (List.mem_append_right _ (List.mem_append_left _ (List.mem_of_getElem? (i := 179) rfl))))) rfl
theorem wd_660 : Cond.fieldLink "SuitByTailorsModel" 26 "SuitByTailorsModel" "part" "[I" ∈ wG := wG_of (List.mem_append_right _ (List.mem_append_right _ (List.mem_append_right _ (List.mem_append_left _ (List.mem_of_getElem? (i := 180) rfl))))) rfl
theorem wd_661 : Cond.fieldLink "SuitByTailorsModel" 29 "SuitByTailorsModel" "seams" "[I" ∈ wG := wG_of (List.mem_append_right _ (List.mem_append_right _ (List.mem_append_right _ (List.mem_append_left _ (List.mem_of_getElem? (i := 181) rfl))))) rfl
theorem wd_662 : Cond.fieldLink "SuitByTailorsModel" 32 "SuitByTailorsModel" "seam" "[I" ∈ wG := wG_of (List.mem_append_right _ (List.mem_append_right _ (List.mem_append_right _ (List.mem_append_left _ (List.mem_of_getElem? (i := 182) rfl))))) rfl
theorem wd_663 : Cond.fieldLink "SuitByTailorsModel" 35 "SuitByTailorsModel" "slot" "[I" ∈ wG := wG_of (List.mem_append_right _ (List.mem_append_right _ (List.mem_append_right _ (List.mem_append_left _ (List.mem_of_getElem? (i := 183) rfl))))) rfl
theorem wd_664 : Cond.fieldLink "SuitByTailorsModel" 116 "SuitByTailorsModel" "kept" "I" ∈ wG := wG_of (List.mem_append_right _ (List.mem_append_right _ (List.mem_append_right _ (List.mem_append_left _ (List.mem_of_getElem? (i := 184) rfl))))) rfl
theorem wd_665 : Cond.fieldLink "SuitByTailorsModel" 113 "SuitByTailorsModel" "done" "I" ∈ wG := wG_of (List.mem_append_right _ (List.mem_append_right _ (List.mem_append_right _ (List.mem_append_left _ (List.mem_of_getElem? (i := 185) rfl))))) rfl
theorem wd_666 : Cond.fieldLink "SuitByTailorsModel" 107 "SuitByTailorsModel" "seens" "I" ∈ wG := wG_of (List.mem_append_right _ (List.mem_append_right _ (List.mem_append_right _ (List.mem_append_left _ (List.mem_of_getElem? (i := 186) rfl))))) rfl
theorem wd_667 : Cond.fieldLink "SuitByTailorsModel" 38 "SuitByTailorsModel" "saw" "[I" ∈ wG := wG_of (List.mem_append_right _ (List.mem_append_right _ (List.mem_append_right _ (List.mem_append_left _ (List.mem_of_getElem? (i := 187) rfl))))) rfl
theorem wd_668 : Cond.fieldLink "SuitByTailorsModel" 110 "SuitByTailorsModel" "pins" "I" ∈ wG := wG_of (List.mem_append_right _ (List.mem_append_right _ (List.mem_append_right _ (List.mem_append_left _ (List.mem_of_getElem? (i := 188) rfl))))) rfl
theorem wd_669 : Cond.fieldLink "SuitByTailorsModel" 41 "SuitByTailorsModel" "pinned" "[I" ∈ wG := wG_of (List.mem_append_right _ (List.mem_append_right _ (List.mem_append_right _ (List.mem_append_left _ (List.mem_of_getElem? (i := 189) rfl))))) rfl
theorem wd_670 : Cond.fieldLink "SuitByTailorsModel" 44 "SuitByTailorsModel" "row" "[I" ∈ wG := wG_of (List.mem_append_right _ (List.mem_append_right _ (List.mem_append_right _ (List.mem_append_left _ (List.mem_of_getElem? (i := 190) rfl))))) rfl
theorem wd_671 : Cond.fieldLink "SuitByTailorsModel" 47 "SuitByTailorsModel" "best" "[I" ∈ wG := wG_of (List.mem_append_right _ (List.mem_append_right _ (List.mem_append_right _ (List.mem_append_left _ (List.mem_of_getElem? (i := 191) rfl))))) rfl
theorem wd_672 : Cond.fieldLink "SuitByTailorsModel" 50 "SuitByTailorsModel" "cut" "[I" ∈ wG := wG_of (List.mem_append_right _ (List.mem_append_right _ (List.mem_append_right _ (List.mem_append_left _ (List.mem_of_getElem? (i := 192) rfl))))) rfl
theorem wd_673 : Cond.fieldLink "SuitByTailorsModel" 53 "SuitByTailorsModel" "sums" "[I" ∈ wG := wG_of (List.mem_append_right _ (List.mem_append_right _ (List.mem_append_right _ (List.mem_append_left _ (List.mem_of_getElem? (i := 193) rfl))))) rfl
theorem wd_674 : Cond.fieldLink "SuitByTailorsModel" 56 "SuitByTailorsModel" "least" "[I" ∈ wG := wG_of (List.mem_append_right _ (List.mem_append_right _ (List.mem_append_right _ (List.mem_append_left _ (List.mem_of_getElem? (i := 194) rfl))))) rfl
theorem wd_675 : Cond.fieldLink "SuitByTailorsModel" 59 "SuitByTailorsModel" "got" "[I" ∈ wG := wG_of (List.mem_append_right _ (List.mem_append_right _ (List.mem_append_right _ (List.mem_append_left _ (List.mem_of_getElem? (i := 195) rfl))))) rfl
theorem wd_676 : Cond.lays "SuitByTailorsModel" "SuitByTailorsModel" "length" "I" ∈ wG := wG_of (List.mem_append_right _ (List.mem_append_right _ (List.mem_append_right _ (List.mem_append_left _ (List.mem_of_getElem? (i := 196) rfl))))) rfl
theorem wd_678 : Cond.laysFinal "SuitByTailorsModel" "SuitByTailorsModel" "text" "[B" ∈ wG := wG_of (List.mem_append_right _ (List.mem_append_right _ (List.mem_append_right _ (List.mem_append_left _ (List.mem_of_getElem? (i := 198) rfl))))) rfl
theorem wd_680 : Cond.lays "SuitByTailorsModel" "SuitByTailorsModel" "at" "I" ∈ wG := wG_of (List.mem_append_right _ (List.mem_append_right _ (List.mem_append_right _ (List.mem_append_left _ (List.mem_of_getElem? (i := 200) rfl))))) rfl
theorem wd_682 : Cond.laysFinal "SuitByTailorsModel" "SuitByTailorsModel" "told" "[I" ∈ wG := wG_of (List.mem_append_right _ (List.mem_append_right _ (List.mem_append_right _ (List.mem_append_left _ (List.mem_of_getElem? (i := 202) rfl))))) rfl
theorem wd_684 : Cond.laysFinal "SuitByTailorsModel" "SuitByTailorsModel" "tailors" "[I" ∈ wG := wG_of (List.mem_append_right _ (List.mem_append_right _ (List.mem_append_right _ (List.mem_append_left _ (List.mem_of_getElem? (i := 204) rfl))))) rfl
theorem wd_686 : Cond.laysFinal "SuitByTailorsModel" "SuitByTailorsModel" "inches" "[I" ∈ wG := wG_of (List.mem_append_right _ (List.mem_append_right _ (List.mem_append_right _ (List.mem_append_left _ (List.mem_of_getElem? (i := 206) rfl))))) rfl
theorem wd_688 : Cond.laysFinal "SuitByTailorsModel" "SuitByTailorsModel" "parts" "[I" ∈ wG := wG_of (List.mem_append_right _ (List.mem_append_right _ (List.mem_append_right _ (List.mem_append_left _ (List.mem_of_getElem? (i := 208) rfl))))) rfl
theorem wd_690 : Cond.laysFinal "SuitByTailorsModel" "SuitByTailorsModel" "part" "[I" ∈ wG := wG_of (List.mem_append_right _ (List.mem_append_right _ (List.mem_append_right _ (List.mem_append_left _ (List.mem_of_getElem? (i := 210) rfl))))) rfl
theorem wd_692 : Cond.laysFinal "SuitByTailorsModel" "SuitByTailorsModel" "seams" "[I" ∈ wG := wG_of (List.mem_append_right _ (List.mem_append_right _ (List.mem_append_right _ (List.mem_append_left _ (List.mem_of_getElem? (i := 212) rfl))))) rfl
theorem wd_694 : Cond.laysFinal "SuitByTailorsModel" "SuitByTailorsModel" "seam" "[I" ∈ wG := wG_of (List.mem_append_right _ (List.mem_append_right _ (List.mem_append_right _ (List.mem_append_left _ (List.mem_of_getElem? (i := 214) rfl))))) rfl
theorem wd_696 : Cond.laysFinal "SuitByTailorsModel" "SuitByTailorsModel" "slot" "[I" ∈ wG := wG_of (List.mem_append_right _ (List.mem_append_right _ (List.mem_append_right _ (List.mem_append_left _ (List.mem_of_getElem? (i := 216) rfl))))) rfl
theorem wd_698 : Cond.lays "SuitByTailorsModel" "SuitByTailorsModel" "kept" "I" ∈ wG := wG_of (List.mem_append_right _ (List.mem_append_right _ (List.mem_append_right _ (List.mem_append_left _ (List.mem_of_getElem? (i := 218) rfl))))) rfl
theorem wd_700 : Cond.lays "SuitByTailorsModel" "SuitByTailorsModel" "done" "I" ∈ wG := wG_of (List.mem_append_right _ (List.mem_append_right _ (List.mem_append_right _ (List.mem_append_left _ (List.mem_of_getElem? (i := 220) rfl))))) rfl
theorem wd_702 : Cond.lays "SuitByTailorsModel" "SuitByTailorsModel" "seens" "I" ∈ wG := wG_of (List.mem_append_right _ (List.mem_append_right _ (List.mem_append_right _ (List.mem_append_left _ (List.mem_of_getElem? (i := 222) rfl))))) rfl
theorem wd_704 : Cond.laysFinal "SuitByTailorsModel" "SuitByTailorsModel" "saw" "[I" ∈ wG := wG_of (List.mem_append_right _ (List.mem_append_right _ (List.mem_append_right _ (List.mem_append_left _ (List.mem_of_getElem? (i := 224) rfl))))) rfl
theorem wd_706 : Cond.lays "SuitByTailorsModel" "SuitByTailorsModel" "pins" "I" ∈ wG := wG_of (List.mem_append_right _ (List.mem_append_right _ (List.mem_append_right _ (List.mem_append_left _ (List.mem_of_getElem? (i := 226) rfl))))) rfl
theorem wd_708 : Cond.laysFinal "SuitByTailorsModel" "SuitByTailorsModel" "pinned" "[I" ∈ wG := wG_of (List.mem_append_right _ (List.mem_append_right _ (List.mem_append_right _ (List.mem_append_left _ (List.mem_of_getElem? (i := 228) rfl))))) rfl
theorem wd_710 : Cond.laysFinal "SuitByTailorsModel" "SuitByTailorsModel" "row" "[I" ∈ wG := wG_of (List.mem_append_right _ (List.mem_append_right _ (List.mem_append_right _ (List.mem_append_left _ (List.mem_of_getElem? (i := 230) rfl))))) rfl
theorem wd_712 : Cond.laysFinal "SuitByTailorsModel" "SuitByTailorsModel" "best" "[I" ∈ wG := wG_of (List.mem_append_right _ (List.mem_append_right _ (List.mem_append_right _ (List.mem_append_left _ (List.mem_of_getElem? (i := 232) rfl))))) rfl
theorem wd_714 : Cond.laysFinal "SuitByTailorsModel" "SuitByTailorsModel" "cut" "[I" ∈ wG := wG_of (List.mem_append_right _ (List.mem_append_right _ (List.mem_append_right _ (List.mem_append_left _ (List.mem_of_getElem? (i := 234) rfl))))) rfl
theorem wd_716 : Cond.laysFinal "SuitByTailorsModel" "SuitByTailorsModel" "sums" "[I" ∈ wG := wG_of (List.mem_append_right _ (List.mem_append_right _ (List.mem_append_right _ (List.mem_append_left _ (List.mem_of_getElem? (i := 236) rfl))))) rfl
theorem wd_718 : Cond.laysFinal "SuitByTailorsModel" "SuitByTailorsModel" "least" "[I" ∈ wG := wG_of (List.mem_append_right _ (List.mem_append_right _ (List.mem_append_right _ (List.mem_append_left _ (List.mem_of_getElem? (i := 238) rfl))))) rfl
theorem wd_720 : Cond.laysFinal "SuitByTailorsModel" "SuitByTailorsModel" "got" "[I" ∈ wG := wG_of (List.mem_append_right _ (List.mem_append_right _ (List.mem_append_right _ (List.mem_append_right _ (List.mem_of_getElem? (i := 0) rfl))))) rfl
theorem wd_723 : Cond.methodLink "SuitByTailorsLaw" 19 ⟨"SuitByTailorsModel", "write", "(IJ)I"⟩ ∈ wG := wG_of (List.mem_append_right _ (List.mem_append_right _ (List.mem_append_right _ (List.mem_append_right _ (List.mem_of_getElem? (i := 3) rfl))))) rfl
theorem wd_724 : Cond.instanceMethod ⟨"SuitByTailorsModel", "write", "(IJ)I"⟩ ∈ wG := wG_of (List.mem_append_right _ (List.mem_append_right _ (List.mem_append_right _ (List.mem_append_right _ (List.mem_of_getElem? (i := 4) rfl))))) rfl
theorem wd_725 : Cond.selects "SuitByTailorsModel" ⟨"SuitByTailorsModel", "write", "(IJ)I"⟩ ⟨"SuitByTailorsModel", "write", "(IJ)I"⟩ ∈ wG := wG_of (List.mem_append_right _ (List.mem_append_right _ (List.mem_append_right _ (List.mem_append_right _ (List.mem_of_getElem? (i := 5) rfl))))) rfl
theorem wd_726 : Cond.code ⟨"SuitByTailorsModel", "write", "(IJ)I"⟩ prog_11_method_3_code 5 (some .int) ∈ wG := wG_of (List.mem_append_right _ (List.mem_append_right _ (List.mem_append_right _ (List.mem_append_right _ (List.mem_of_getElem? (i := 6) rfl))))) rfl
theorem wd_727 : Cond.constantLong "SuitByTailorsModel" 68 (8 : Int64) ∈ wG := wG_of (List.mem_append_right _ (List.mem_append_right _ (List.mem_append_right _ (List.mem_append_right _ (List.mem_of_getElem? (i := 7) rfl))))) rfl
theorem wd_728 : Cond.methodLink "SuitByTailorsModel" 70 ⟨"SuitByTailorsModel", "in", "(JJJ)Z"⟩ ∈ wG := wG_of (List.mem_append_right _ (List.mem_append_right _ (List.mem_append_right _ (List.mem_append_right _ (List.mem_of_getElem? (i := 8) rfl))))) rfl
theorem wd_729 : Cond.static ⟨"SuitByTailorsModel", "in", "(JJJ)Z"⟩ ∈ wG := wG_of (List.mem_append_right _ (List.mem_append_right _ (List.mem_append_right _ (List.mem_append_right _ (List.mem_of_getElem? (i := 9) rfl))))) rfl
theorem wd_730 : Cond.code ⟨"SuitByTailorsModel", "in", "(JJJ)Z"⟩ prog_11_method_2_code 6 (some .boolean) ∈ wG := wG_of (List.mem_append_right _ (List.mem_append_right _ (List.mem_append_right _ (List.mem_append_right _ (List.mem_of_getElem? (i := 10) rfl))))) rfl
theorem wd_731 : Cond.methodLink "SuitByTailorsLaw" 24 ⟨"SuitByTailorsModel", "wipe", "()I"⟩ ∈ wG := wG_of (List.mem_append_right _ (List.mem_append_right _ (List.mem_append_right _ (List.mem_append_right _ (List.mem_of_getElem? (i := 11) rfl))))) rfl
theorem wd_732 : Cond.instanceMethod ⟨"SuitByTailorsModel", "wipe", "()I"⟩ ∈ wG := wG_of (List.mem_append_right _ (List.mem_append_right _ (List.mem_append_right _ (List.mem_append_right _ (List.mem_of_getElem? (i := 12) rfl))))) rfl
theorem wd_733 : Cond.selects "SuitByTailorsModel" ⟨"SuitByTailorsModel", "wipe", "()I"⟩ ⟨"SuitByTailorsModel", "wipe", "()I"⟩ ∈ wG := wG_of (List.mem_append_right _ (List.mem_append_right _ (List.mem_append_right _ (List.mem_append_right _ (List.mem_of_getElem? (i := 13) rfl))))) rfl
theorem wd_734 : Cond.code ⟨"SuitByTailorsModel", "wipe", "()I"⟩ prog_11_method_4_code 2 (some .int) ∈ wG := wG_of (List.mem_append_right _ (List.mem_append_right _ (List.mem_append_right _ (List.mem_append_right _ (List.mem_of_getElem? (i := 14) rfl))))) rfl
theorem wd_735 : Cond.methodLink "SuitByTailorsLaw" 28 ⟨"SuitByTailorsModel", "fault", "()I"⟩ ∈ wG := wG_of (List.mem_append_right _ (List.mem_append_right _ (List.mem_append_right _ (List.mem_append_right _ (List.mem_of_getElem? (i := 15) rfl))))) rfl
theorem wd_736 : Cond.instanceMethod ⟨"SuitByTailorsModel", "fault", "()I"⟩ ∈ wG := wG_of (List.mem_append_right _ (List.mem_append_right _ (List.mem_append_right _ (List.mem_append_right _ (List.mem_of_getElem? (i := 16) rfl))))) rfl
theorem wd_737 : Cond.selects "SuitByTailorsModel" ⟨"SuitByTailorsModel", "fault", "()I"⟩ ⟨"SuitByTailorsModel", "fault", "()I"⟩ ∈ wG := wG_of (List.mem_append_right _ (List.mem_append_right _ (List.mem_append_right _ (List.mem_append_right _ (List.mem_of_getElem? (i := 17) rfl))))) rfl
theorem wd_738 : Cond.code ⟨"SuitByTailorsModel", "fault", "()I"⟩ prog_11_method_11_code 2 (some .int) ∈ wG := wG_of (List.mem_append_right _ (List.mem_append_right _ (List.mem_append_right _ (List.mem_append_right _ (List.mem_of_getElem? (i := 18) rfl))))) rfl
theorem wd_739 : Cond.methodLink "SuitByTailorsModel" 119 ⟨"SuitByTailorsModel", "isItem", "()Z"⟩ ∈ wG := wG_of (List.mem_append_right _ (List.mem_append_right _ (List.mem_append_right _ (List.mem_append_right _ (List.mem_of_getElem? (i := 19) rfl))))) rfl
theorem wd_741 : Cond.instanceMethod ⟨"SuitByTailorsModel", "isItem", "()Z"⟩ ∈ wG := wG_of (List.mem_append_right _ (List.mem_append_right _ (List.mem_append_right _ (List.mem_append_right _ (List.mem_of_getElem? (i := 21) rfl))))) rfl
theorem wd_742 : Cond.code ⟨"SuitByTailorsModel", "isItem", "()Z"⟩ prog_11_method_7_code 5 (some .boolean) ∈ wG := wG_of (List.mem_append_right _ (List.mem_append_right _ (List.mem_append_right _ (List.mem_append_right _ (List.mem_of_getElem? (i := 22) rfl))))) rfl
theorem wd_743 : Cond.methodLink "SuitByTailorsModel" 87 ⟨"SuitByTailorsModel", "numbers", "(I)I"⟩ ∈ wG := wG_of (List.mem_append_right _ (List.mem_append_right _ (List.mem_append_right _ (List.mem_append_right _ (List.mem_of_getElem? (i := 23) rfl))))) rfl
theorem wd_744 : Cond.static ⟨"SuitByTailorsModel", "numbers", "(I)I"⟩ ∈ wG := wG_of (List.mem_append_right _ (List.mem_append_right _ (List.mem_append_right _ (List.mem_append_right _ (List.mem_of_getElem? (i := 24) rfl))))) rfl
theorem wd_745 : Cond.code ⟨"SuitByTailorsModel", "numbers", "(I)I"⟩ prog_11_method_6_code 1 (some .int) ∈ wG := wG_of (List.mem_append_right _ (List.mem_append_right _ (List.mem_append_right _ (List.mem_append_right _ (List.mem_of_getElem? (i := 25) rfl))))) rfl
theorem wd_746 : Cond.methodLink "SuitByTailorsModel" 91 ⟨"SuitByTailorsModel", "number", "()I"⟩ ∈ wG := wG_of (List.mem_append_right _ (List.mem_append_right _ (List.mem_append_right _ (List.mem_append_right _ (List.mem_of_getElem? (i := 26) rfl))))) rfl
theorem wd_748 : Cond.instanceMethod ⟨"SuitByTailorsModel", "number", "()I"⟩ ∈ wG := wG_of (List.mem_append_right _ (List.mem_append_right _ (List.mem_append_right _ (List.mem_append_right _ (List.mem_of_getElem? (i := 28) rfl))))) rfl
theorem wd_749 : Cond.code ⟨"SuitByTailorsModel", "number", "()I"⟩ prog_11_method_5_code 3 (some .int) ∈ wG := wG_of (List.mem_append_right _ (List.mem_append_right _ (List.mem_append_right _ (List.mem_append_right _ (List.mem_of_getElem? (i := 29) rfl))))) rfl
theorem wd_750 : Cond.constantLong "SuitByTailorsModel" 81 (48 : Int64) ∈ wG := wG_of (List.mem_append_right _ (List.mem_append_right _ (List.mem_append_right _ (List.mem_append_right _ (List.mem_of_getElem? (i := 30) rfl))))) rfl
theorem wd_751 : Cond.constantLong "SuitByTailorsModel" 83 (57 : Int64) ∈ wG := wG_of (List.mem_append_right _ (List.mem_append_right _ (List.mem_append_right _ (List.mem_append_right _ (List.mem_of_getElem? (i := 31) rfl))))) rfl
theorem wd_752 : Cond.constantLong "SuitByTailorsModel" 85 (3 : Int64) ∈ wG := wG_of (List.mem_append_right _ (List.mem_append_right _ (List.mem_append_right _ (List.mem_append_right _ (List.mem_of_getElem? (i := 32) rfl))))) rfl
theorem wd_753 : Cond.methodLink "SuitByTailorsModel" 95 ⟨"SuitByTailorsModel", "isGood", "(I)Z"⟩ ∈ wG := wG_of (List.mem_append_right _ (List.mem_append_right _ (List.mem_append_right _ (List.mem_append_right _ (List.mem_of_getElem? (i := 33) rfl))))) rfl
theorem wd_755 : Cond.instanceMethod ⟨"SuitByTailorsModel", "isGood", "(I)Z"⟩ ∈ wG := wG_of (List.mem_append_right _ (List.mem_append_right _ (List.mem_append_right _ (List.mem_append_right _ (List.mem_of_getElem? (i := 35) rfl))))) rfl
theorem wd_756 : Cond.code ⟨"SuitByTailorsModel", "isGood", "(I)Z"⟩ prog_11_method_8_code 4 (some .boolean) ∈ wG := wG_of (List.mem_append_right _ (List.mem_append_right _ (List.mem_append_right _ (List.mem_append_right _ (List.mem_of_getElem? (i := 36) rfl))))) rfl
theorem wd_757 : Cond.constantLong "SuitByTailorsModel" 99 (80 : Int64) ∈ wG := wG_of (List.mem_append_right _ (List.mem_append_right _ (List.mem_append_right _ (List.mem_append_right _ (List.mem_of_getElem? (i := 37) rfl))))) rfl
theorem wd_758 : Cond.constantLong "SuitByTailorsModel" 101 (120 : Int64) ∈ wG := wG_of (List.mem_append_right _ (List.mem_append_right _ (List.mem_append_right _ (List.mem_append_right _ (List.mem_of_getElem? (i := 38) rfl))))) rfl
theorem wd_759 : Cond.constantLong "SuitByTailorsModel" 103 (10 : Int64) ∈ wG := wG_of (List.mem_append_right _ (List.mem_append_right _ (List.mem_append_right _ (List.mem_append_right _ (List.mem_of_getElem? (i := 39) rfl))))) rfl
theorem wd_760 : Cond.constantLong "SuitByTailorsModel" 105 (199 : Int64) ∈ wG := wG_of (List.mem_append_right _ (List.mem_append_right _ (List.mem_append_right _ (List.mem_append_right _ (List.mem_of_getElem? (i := 40) rfl))))) rfl
theorem wd_761 : Cond.methodLink "SuitByTailorsLaw" 32 ⟨"SuitByTailorsModel", "lay", "()I"⟩ ∈ wG := wG_of (List.mem_append_right _ (List.mem_append_right _ (List.mem_append_right _ (List.mem_append_right _ (List.mem_of_getElem? (i := 41) rfl))))) rfl
theorem wd_762 : Cond.instanceMethod ⟨"SuitByTailorsModel", "lay", "()I"⟩ ∈ wG := wG_of (List.mem_append_right _ (List.mem_append_right _ (List.mem_append_right _ (List.mem_append_right _ (List.mem_of_getElem? (i := 42) rfl))))) rfl
theorem wd_763 : Cond.selects "SuitByTailorsModel" ⟨"SuitByTailorsModel", "lay", "()I"⟩ ⟨"SuitByTailorsModel", "lay", "()I"⟩ ∈ wG := wG_of (List.mem_append_right _ (List.mem_append_right _ (List.mem_append_right _ (List.mem_append_right _ (List.mem_of_getElem? (i := 43) rfl))))) rfl
theorem wd_764 : Cond.code ⟨"SuitByTailorsModel", "lay", "()I"⟩ prog_11_method_12_code 1 (some .int) ∈ wG := wG_of (List.mem_append_right _ (List.mem_append_right _ (List.mem_append_right _ (List.mem_append_right _ (List.mem_of_getElem? (i := 44) rfl))))) rfl
theorem wd_765 : Cond.methodLink "SuitByTailorsModel" 123 ⟨"SuitByTailorsModel", "fault", "()I"⟩ ∈ wG := wG_of (List.mem_append_right _ (List.mem_append_right _ (List.mem_append_right _ (List.mem_append_right _ (List.mem_of_getElem? (i := 45) rfl))))) rfl
theorem wd_766 : Cond.methodLink "SuitByTailorsLaw" 37 ⟨"SuitByTailorsModel", "part", "(II)I"⟩ ∈ wG := wG_of (List.mem_append_right _ (List.mem_append_right _ (List.mem_append_right _ (List.mem_append_right _ (List.mem_of_getElem? (i := 46) rfl))))) rfl
theorem wd_767 : Cond.instanceMethod ⟨"SuitByTailorsModel", "part", "(II)I"⟩ ∈ wG := wG_of (List.mem_append_right _ (List.mem_append_right _ (List.mem_append_right _ (List.mem_append_right _ (List.mem_of_getElem? (i := 47) rfl))))) rfl
theorem wd_768 : Cond.selects "SuitByTailorsModel" ⟨"SuitByTailorsModel", "part", "(II)I"⟩ ⟨"SuitByTailorsModel", "part", "(II)I"⟩ ∈ wG := wG_of (List.mem_append_right _ (List.mem_append_right _ (List.mem_append_right _ (List.mem_append_right _ (List.mem_of_getElem? (i := 48) rfl))))) rfl
theorem wd_769 : Cond.code ⟨"SuitByTailorsModel", "part", "(II)I"⟩ prog_11_method_23_code 3 (some .int) ∈ wG := wG_of (List.mem_append_right _ (List.mem_append_right _ (List.mem_append_right _ (List.mem_append_right _ (List.mem_of_getElem? (i := 49) rfl))))) rfl
theorem wd_770 : Cond.methodLink "SuitByTailorsModel" 151 ⟨"SuitByTailorsModel", "isPart", "(I)Z"⟩ ∈ wG := wG_of (List.mem_append_right _ (List.mem_append_right _ (List.mem_append_right _ (List.mem_append_right _ (List.mem_of_getElem? (i := 50) rfl))))) rfl
theorem wd_772 : Cond.instanceMethod ⟨"SuitByTailorsModel", "isPart", "(I)Z"⟩ ∈ wG := wG_of (List.mem_append_right _ (List.mem_append_right _ (List.mem_append_right _ (List.mem_append_right _ (List.mem_of_getElem? (i := 52) rfl))))) rfl
theorem wd_773 : Cond.code ⟨"SuitByTailorsModel", "isPart", "(I)Z"⟩ prog_11_method_13_code 2 (some .boolean) ∈ wG := wG_of (List.mem_append_right _ (List.mem_append_right _ (List.mem_append_right _ (List.mem_append_right _ (List.mem_of_getElem? (i := 53) rfl))))) rfl
theorem wd_774 : Cond.constantLong "SuitByTailorsModel" 154 (6 : Int64) ∈ wG := wG_of (List.mem_append_right _ (List.mem_append_right _ (List.mem_append_right _ (List.mem_append_right _ (List.mem_of_getElem? (i := 54) rfl))))) rfl
theorem wd_775 : Cond.methodLink "SuitByTailorsModel" 134 ⟨"SuitByTailorsModel", "placeOf", "(I)I"⟩ ∈ wG := wG_of (List.mem_append_right _ (List.mem_append_right _ (List.mem_append_right _ (List.mem_append_right _ (List.mem_of_getElem? (i := 55) rfl))))) rfl
theorem wd_777 : Cond.instanceMethod ⟨"SuitByTailorsModel", "placeOf", "(I)I"⟩ ∈ wG := wG_of (List.mem_append_right _ (List.mem_append_right _ (List.mem_append_right _ (List.mem_append_right _ (List.mem_of_getElem? (i := 57) rfl))))) rfl
theorem wd_778 : Cond.code ⟨"SuitByTailorsModel", "placeOf", "(I)I"⟩ prog_11_method_17_code 3 (some .int) ∈ wG := wG_of (List.mem_append_right _ (List.mem_append_right _ (List.mem_append_right _ (List.mem_append_right _ (List.mem_of_getElem? (i := 58) rfl))))) rfl
theorem wd_779 : Cond.methodLink "SuitByTailorsModel" 141 ⟨"SuitByTailorsModel", "slipNow", "(I)I"⟩ ∈ wG := wG_of (List.mem_append_right _ (List.mem_append_right _ (List.mem_append_right _ (List.mem_append_right _ (List.mem_of_getElem? (i := 59) rfl))))) rfl
theorem wd_781 : Cond.instanceMethod ⟨"SuitByTailorsModel", "slipNow", "(I)I"⟩ ∈ wG := wG_of (List.mem_append_right _ (List.mem_append_right _ (List.mem_append_right _ (List.mem_append_right _ (List.mem_of_getElem? (i := 61) rfl))))) rfl
theorem wd_782 : Cond.code ⟨"SuitByTailorsModel", "slipNow", "(I)I"⟩ prog_11_method_18_code 2 (some .int) ∈ wG := wG_of (List.mem_append_right _ (List.mem_append_right _ (List.mem_append_right _ (List.mem_append_right _ (List.mem_of_getElem? (i := 62) rfl))))) rfl
theorem wd_783 : Cond.methodLink "SuitByTailorsModel" 137 ⟨"SuitByTailorsModel", "slip", "(III)I"⟩ ∈ wG := wG_of (List.mem_append_right _ (List.mem_append_right _ (List.mem_append_right _ (List.mem_append_right _ (List.mem_of_getElem? (i := 63) rfl))))) rfl
theorem wd_784 : Cond.static ⟨"SuitByTailorsModel", "slip", "(III)I"⟩ ∈ wG := wG_of (List.mem_append_right _ (List.mem_append_right _ (List.mem_append_right _ (List.mem_append_right _ (List.mem_of_getElem? (i := 64) rfl))))) rfl
theorem wd_785 : Cond.code ⟨"SuitByTailorsModel", "slip", "(III)I"⟩ prog_11_method_15_code 6 (some .int) ∈ wG := wG_of (List.mem_append_right _ (List.mem_append_right _ (List.mem_append_right _ (List.mem_append_right _ (List.mem_of_getElem? (i := 65) rfl))))) rfl
theorem wd_786 : Cond.constantLong "SuitByTailorsModel" 126 (7919 : Int64) ∈ wG := wG_of (List.mem_append_right _ (List.mem_append_right _ (List.mem_append_right _ (List.mem_append_right _ (List.mem_of_getElem? (i := 66) rfl))))) rfl
theorem wd_787 : Cond.constantLong "SuitByTailorsModel" 128 (6151 : Int64) ∈ wG := wG_of (List.mem_append_right _ (List.mem_append_right _ (List.mem_append_right _ (List.mem_append_right _ (List.mem_of_getElem? (i := 67) rfl))))) rfl
theorem wd_788 : Cond.constantLong "SuitByTailorsModel" 130 (3571 : Int64) ∈ wG := wG_of (List.mem_append_right _ (List.mem_append_right _ (List.mem_append_right _ (List.mem_append_right _ (List.mem_of_getElem? (i := 68) rfl))))) rfl
theorem wd_789 : Cond.constantLong "SuitByTailorsModel" 132 (65521 : Int64) ∈ wG := wG_of (List.mem_append_right _ (List.mem_append_right _ (List.mem_append_right _ (List.mem_append_right _ (List.mem_of_getElem? (i := 69) rfl))))) rfl
theorem wd_790 : Cond.methodLink "SuitByTailorsModel" 144 ⟨"SuitByTailorsModel", "cutOf", "(II)I"⟩ ∈ wG := wG_of (List.mem_append_right _ (List.mem_append_right _ (List.mem_append_right _ (List.mem_append_right _ (List.mem_of_getElem? (i := 70) rfl))))) rfl
theorem wd_792 : Cond.instanceMethod ⟨"SuitByTailorsModel", "cutOf", "(II)I"⟩ ∈ wG := wG_of (List.mem_append_right _ (List.mem_append_right _ (List.mem_append_right _ (List.mem_append_right _ (List.mem_of_getElem? (i := 72) rfl))))) rfl
theorem wd_793 : Cond.code ⟨"SuitByTailorsModel", "cutOf", "(II)I"⟩ prog_11_method_16_code 3 (some .int) ∈ wG := wG_of (List.mem_append_right _ (List.mem_append_right _ (List.mem_append_right _ (List.mem_append_right _ (List.mem_of_getElem? (i := 73) rfl))))) rfl
theorem wd_794 : Cond.methodLink "SuitByTailorsLaw" 42 ⟨"SuitByTailorsModel", "gap", "(I)I"⟩ ∈ wG := wG_of (List.mem_append_right _ (List.mem_append_right _ (List.mem_append_right _ (List.mem_append_right _ (List.mem_of_getElem? (i := 74) rfl))))) rfl
theorem wd_795 : Cond.instanceMethod ⟨"SuitByTailorsModel", "gap", "(I)I"⟩ ∈ wG := wG_of (List.mem_append_right _ (List.mem_append_right _ (List.mem_append_right _ (List.mem_append_right _ (List.mem_of_getElem? (i := 75) rfl))))) rfl
theorem wd_796 : Cond.selects "SuitByTailorsModel" ⟨"SuitByTailorsModel", "gap", "(I)I"⟩ ⟨"SuitByTailorsModel", "gap", "(I)I"⟩ ∈ wG := wG_of (List.mem_append_right _ (List.mem_append_right _ (List.mem_append_right _ (List.mem_append_right _ (List.mem_of_getElem? (i := 76) rfl))))) rfl
theorem wd_797 : Cond.code ⟨"SuitByTailorsModel", "gap", "(I)I"⟩ prog_11_method_24_code 2 (some .int) ∈ wG := wG_of (List.mem_append_right _ (List.mem_append_right _ (List.mem_append_right _ (List.mem_append_right _ (List.mem_of_getElem? (i := 77) rfl))))) rfl
theorem wd_798 : Cond.constantLong "SuitByTailorsModel" 156 (-1 : Int64) ∈ wG := wG_of (List.mem_append_right _ (List.mem_append_right _ (List.mem_append_right _ (List.mem_append_right _ (List.mem_of_getElem? (i := 78) rfl))))) rfl
theorem wd_799 : Cond.methodLink "SuitByTailorsModel" 158 ⟨"SuitByTailorsModel", "lengths", "()V"⟩ ∈ wG := wG_of (List.mem_append_right _ (List.mem_append_right _ (List.mem_append_right _ (List.mem_append_right _ (List.mem_of_getElem? (i := 79) rfl))))) rfl
theorem wd_801 : Cond.instanceMethod ⟨"SuitByTailorsModel", "lengths", "()V"⟩ ∈ wG := wG_of (List.mem_append_right _ (List.mem_append_right _ (List.mem_append_right _ (List.mem_append_right _ (List.mem_of_getElem? (i := 81) rfl))))) rfl
theorem wd_802 : Cond.code ⟨"SuitByTailorsModel", "lengths", "()V"⟩ prog_11_method_19_code 2 none ∈ wG := wG_of (List.mem_append_right _ (List.mem_append_right _ (List.mem_append_right _ (List.mem_append_right _ (List.mem_of_getElem? (i := 82) rfl))))) rfl
theorem wd_803 : Cond.methodLink "SuitByTailorsModel" 161 ⟨"SuitByTailorsModel", "gaps", "()I"⟩ ∈ wG := wG_of (List.mem_append_right _ (List.mem_append_right _ (List.mem_append_right _ (List.mem_append_right _ (List.mem_of_getElem? (i := 83) rfl))))) rfl
theorem wd_805 : Cond.instanceMethod ⟨"SuitByTailorsModel", "gaps", "()I"⟩ ∈ wG := wG_of (List.mem_append_right _ (List.mem_append_right _ (List.mem_append_right _ (List.mem_append_right _ (List.mem_of_getElem? (i := 85) rfl))))) rfl
theorem wd_806 : Cond.code ⟨"SuitByTailorsModel", "gaps", "()I"⟩ prog_11_method_21_code 3 (some .int) ∈ wG := wG_of (List.mem_append_right _ (List.mem_append_right _ (List.mem_append_right _ (List.mem_append_right _ (List.mem_of_getElem? (i := 86) rfl))))) rfl
theorem wd_807 : Cond.methodLink "SuitByTailorsModel" 148 ⟨"SuitByTailorsModel", "gapOf", "(I)I"⟩ ∈ wG := wG_of (List.mem_append_right _ (List.mem_append_right _ (List.mem_append_right _ (List.mem_append_right _ (List.mem_of_getElem? (i := 87) rfl))))) rfl
theorem wd_809 : Cond.instanceMethod ⟨"SuitByTailorsModel", "gapOf", "(I)I"⟩ ∈ wG := wG_of (List.mem_append_right _ (List.mem_append_right _ (List.mem_append_right _ (List.mem_append_right _ (List.mem_of_getElem? (i := 89) rfl))))) rfl
theorem wd_810 : Cond.code ⟨"SuitByTailorsModel", "gapOf", "(I)I"⟩ prog_11_method_20_code 3 (some .int) ∈ wG := wG_of (List.mem_append_right _ (List.mem_append_right _ (List.mem_append_right _ (List.mem_append_right _ (List.mem_of_getElem? (i := 90) rfl))))) rfl
theorem wd_811 : Cond.methodLink "SuitByTailorsLaw" 46 ⟨"SuitByTailorsModel", "closes", "()I"⟩ ∈ wG := wG_of (List.mem_append_right _ (List.mem_append_right _ (List.mem_append_right _ (List.mem_append_right _ (List.mem_of_getElem? (i := 91) rfl))))) rfl
theorem wd_812 : Cond.instanceMethod ⟨"SuitByTailorsModel", "closes", "()I"⟩ ∈ wG := wG_of (List.mem_append_right _ (List.mem_append_right _ (List.mem_append_right _ (List.mem_append_right _ (List.mem_of_getElem? (i := 92) rfl))))) rfl
theorem wd_813 : Cond.selects "SuitByTailorsModel" ⟨"SuitByTailorsModel", "closes", "()I"⟩ ⟨"SuitByTailorsModel", "closes", "()I"⟩ ∈ wG := wG_of (List.mem_append_right _ (List.mem_append_right _ (List.mem_append_right _ (List.mem_append_right _ (List.mem_of_getElem? (i := 93) rfl))))) rfl
theorem wd_814 : Cond.code ⟨"SuitByTailorsModel", "closes", "()I"⟩ prog_11_method_25_code 1 (some .int) ∈ wG := wG_of (List.mem_append_right _ (List.mem_append_right _ (List.mem_append_right _ (List.mem_append_right _ (List.mem_of_getElem? (i := 94) rfl))))) rfl
theorem wd_815 : Cond.methodLink "SuitByTailorsModel" 164 ⟨"SuitByTailorsModel", "isClosed", "()Z"⟩ ∈ wG := wG_of (List.mem_append_right _ (List.mem_append_right _ (List.mem_append_right _ (List.mem_append_right _ (List.mem_of_getElem? (i := 95) rfl))))) rfl
theorem wd_817 : Cond.instanceMethod ⟨"SuitByTailorsModel", "isClosed", "()Z"⟩ ∈ wG := wG_of (List.mem_append_right _ (List.mem_append_right _ (List.mem_append_right _ (List.mem_append_right _ (List.mem_of_getElem? (i := 97) rfl))))) rfl
theorem wd_818 : Cond.code ⟨"SuitByTailorsModel", "isClosed", "()Z"⟩ prog_11_method_22_code 3 (some .boolean) ∈ wG := wG_of (List.mem_append_right _ (List.mem_append_right _ (List.mem_append_right _ (List.mem_append_right _ (List.mem_of_getElem? (i := 98) rfl))))) rfl
theorem wd_819 : Cond.methodLink "SuitByTailorsLaw" 50 ⟨"SuitByTailorsModel", "change", "(II)I"⟩ ∈ wG := wG_of (List.mem_append_right _ (List.mem_append_right _ (List.mem_append_right _ (List.mem_append_right _ (List.mem_of_getElem? (i := 99) rfl))))) rfl
theorem wd_820 : Cond.instanceMethod ⟨"SuitByTailorsModel", "change", "(II)I"⟩ ∈ wG := wG_of (List.mem_append_right _ (List.mem_append_right _ (List.mem_append_right _ (List.mem_append_right _ (List.mem_of_getElem? (i := 100) rfl))))) rfl
theorem wd_821 : Cond.selects "SuitByTailorsModel" ⟨"SuitByTailorsModel", "change", "(II)I"⟩ ⟨"SuitByTailorsModel", "change", "(II)I"⟩ ∈ wG := wG_of (List.mem_append_right _ (List.mem_append_right _ (List.mem_append_right _ (List.mem_append_right _ (List.mem_of_getElem? (i := 101) rfl))))) rfl
theorem wd_822 : Cond.code ⟨"SuitByTailorsModel", "change", "(II)I"⟩ prog_11_method_28_code 5 (some .int) ∈ wG := wG_of (List.mem_append_right _ (List.mem_append_right _ (List.mem_append_right _ (List.mem_append_right _ (List.mem_of_getElem? (i := 102) rfl))))) rfl
theorem wd_823 : Cond.methodLink "SuitByTailorsModel" 171 ⟨"SuitByTailorsModel", "known", "()V"⟩ ∈ wG := wG_of (List.mem_append_right _ (List.mem_append_right _ (List.mem_append_right _ (List.mem_append_right _ (List.mem_of_getElem? (i := 103) rfl))))) rfl
theorem wd_825 : Cond.instanceMethod ⟨"SuitByTailorsModel", "known", "()V"⟩ ∈ wG := wG_of (List.mem_append_right _ (List.mem_append_right _ (List.mem_append_right _ (List.mem_append_right _ (List.mem_of_getElem? (i := 105) rfl))))) rfl
theorem wd_826 : Cond.code ⟨"SuitByTailorsModel", "known", "()V"⟩ prog_11_method_27_code 2 none ∈ wG := wG_of (List.mem_append_right _ (List.mem_append_right _ (List.mem_append_right _ (List.mem_append_right _ (List.mem_of_getElem? (i := 106) rfl))))) rfl
theorem wd_827 : Cond.methodLink "SuitByTailorsModel" 167 ⟨"SuitByTailorsModel", "copies", "(II)V"⟩ ∈ wG := wG_of (List.mem_append_right _ (List.mem_append_right _ (List.mem_append_right _ (List.mem_append_right _ (List.mem_of_getElem? (i := 107) rfl))))) rfl
theorem wd_829 : Cond.instanceMethod ⟨"SuitByTailorsModel", "copies", "(II)V"⟩ ∈ wG := wG_of (List.mem_append_right _ (List.mem_append_right _ (List.mem_append_right _ (List.mem_append_right _ (List.mem_of_getElem? (i := 109) rfl))))) rfl
theorem wd_830 : Cond.code ⟨"SuitByTailorsModel", "copies", "(II)V"⟩ prog_11_method_26_code 4 none ∈ wG := wG_of (List.mem_append_right _ (List.mem_append_right _ (List.mem_append_right _ (List.mem_append_right _ (List.mem_of_getElem? (i := 110) rfl))))) rfl
theorem wd_831 : Cond.methodLink "SuitByTailorsLaw" 54 ⟨"SuitByTailorsModel", "alter", "(II)I"⟩ ∈ wG := wG_of (List.mem_append_right _ (List.mem_append_right _ (List.mem_append_right _ (List.mem_append_right _ (List.mem_of_getElem? (i := 111) rfl))))) rfl
theorem wd_832 : Cond.instanceMethod ⟨"SuitByTailorsModel", "alter", "(II)I"⟩ ∈ wG := wG_of (List.mem_append_right _ (List.mem_append_right _ (List.mem_append_right _ (List.mem_append_right _ (List.mem_of_getElem? (i := 112) rfl))))) rfl
theorem wd_833 : Cond.selects "SuitByTailorsModel" ⟨"SuitByTailorsModel", "alter", "(II)I"⟩ ⟨"SuitByTailorsModel", "alter", "(II)I"⟩ ∈ wG := wG_of (List.mem_append_right _ (List.mem_append_right _ (List.mem_append_right _ (List.mem_append_right _ (List.mem_of_getElem? (i := 113) rfl))))) rfl
theorem wd_834 : Cond.code ⟨"SuitByTailorsModel", "alter", "(II)I"⟩ prog_11_method_29_code 4 (some .int) ∈ wG := wG_of (List.mem_append_right _ (List.mem_append_right _ (List.mem_append_right _ (List.mem_append_right _ (List.mem_of_getElem? (i := 114) rfl))))) rfl
theorem wd_835 : Cond.constantLong "SuitByTailorsModel" 174 (-9 : Int64) ∈ wG := wG_of (List.mem_append_right _ (List.mem_append_right _ (List.mem_append_right _ (List.mem_append_right _ (List.mem_of_getElem? (i := 115) rfl))))) rfl
theorem wd_836 : Cond.constantLong "SuitByTailorsModel" 176 (9 : Int64) ∈ wG := wG_of (List.mem_append_right _ (List.mem_append_right _ (List.mem_append_right _ (List.mem_append_right _ (List.mem_of_getElem? (i := 116) rfl))))) rfl
theorem wd_837 : Cond.methodLink "SuitByTailorsModel" 178 ⟨"SuitByTailorsModel", "part", "(II)I"⟩ ∈ wG := wG_of (List.mem_append_right _ (List.mem_append_right _ (List.mem_append_right _ (List.mem_append_right _ (List.mem_of_getElem? (i := 117) rfl))))) rfl
theorem wd_838 : Cond.constantLong "SuitByTailorsModel" 180 (299 : Int64) ∈ wG := wG_of (List.mem_append_right _ (List.mem_append_right _ (List.mem_append_right _ (List.mem_append_right _ (List.mem_of_getElem? (i := 118) rfl))))) rfl
theorem wd_839 : Cond.methodLink "SuitByTailorsLaw" 58 ⟨"SuitByTailorsModel", "undo", "()I"⟩ ∈ wG := wG_of (List.mem_append_right _ (List.mem_append_right _ (List.mem_append_right _ (List.mem_append_right _ (List.mem_of_getElem? (i := 119) rfl))))) rfl
theorem wd_840 : Cond.instanceMethod ⟨"SuitByTailorsModel", "undo", "()I"⟩ ∈ wG := wG_of (List.mem_append_right _ (List.mem_append_right _ (List.mem_append_right _ (List.mem_append_right _ (List.mem_of_getElem? (i := 120) rfl))))) rfl
theorem wd_841 : Cond.selects "SuitByTailorsModel" ⟨"SuitByTailorsModel", "undo", "()I"⟩ ⟨"SuitByTailorsModel", "undo", "()I"⟩ ∈ wG := wG_of (List.mem_append_right _ (List.mem_append_right _ (List.mem_append_right _ (List.mem_append_right _ (List.mem_of_getElem? (i := 121) rfl))))) rfl
theorem wd_842 : Cond.code ⟨"SuitByTailorsModel", "undo", "()I"⟩ prog_11_method_30_code 1 (some .int) ∈ wG := wG_of (List.mem_append_right _ (List.mem_append_right _ (List.mem_append_right _ (List.mem_append_right _ (List.mem_of_getElem? (i := 122) rfl))))) rfl
theorem wd_843 : Cond.methodLink "SuitByTailorsLaw" 62 ⟨"SuitByTailorsModel", "order", "(I)I"⟩ ∈ wG := wG_of (List.mem_append_right _ (List.mem_append_right _ (List.mem_append_right _ (List.mem_append_right _ (List.mem_of_getElem? (i := 123) rfl))))) rfl
theorem wd_844 : Cond.instanceMethod ⟨"SuitByTailorsModel", "order", "(I)I"⟩ ∈ wG := wG_of (List.mem_append_right _ (List.mem_append_right _ (List.mem_append_right _ (List.mem_append_right _ (List.mem_of_getElem? (i := 124) rfl))))) rfl
theorem wd_845 : Cond.selects "SuitByTailorsModel" ⟨"SuitByTailorsModel", "order", "(I)I"⟩ ⟨"SuitByTailorsModel", "order", "(I)I"⟩ ∈ wG := wG_of (List.mem_append_right _ (List.mem_append_right _ (List.mem_append_right _ (List.mem_append_right _ (List.mem_of_getElem? (i := 125) rfl))))) rfl
theorem wd_846 : Cond.code ⟨"SuitByTailorsModel", "order", "(I)I"⟩ prog_11_method_32_code 6 (some .int) ∈ wG := wG_of (List.mem_append_right _ (List.mem_append_right _ (List.mem_append_right _ (List.mem_append_right _ (List.mem_of_getElem? (i := 126) rfl))))) rfl
theorem wd_847 : Cond.methodLink "SuitByTailorsModel" 182 ⟨"SuitByTailorsModel", "nextOrder", "()Z"⟩ ∈ wG := wG_of (List.mem_append_right _ (List.mem_append_right _ (List.mem_append_right _ (List.mem_append_right _ (List.mem_of_getElem? (i := 127) rfl))))) rfl
theorem wd_849 : Cond.instanceMethod ⟨"SuitByTailorsModel", "nextOrder", "()Z"⟩ ∈ wG := wG_of (List.mem_append_right _ (List.mem_append_right _ (List.mem_append_right _ (List.mem_append_right _ (List.mem_of_getElem? (i := 129) rfl))))) rfl
theorem wd_850 : Cond.code ⟨"SuitByTailorsModel", "nextOrder", "()Z"⟩ prog_11_method_31_code 7 (some .boolean) ∈ wG := wG_of (List.mem_append_right _ (List.mem_append_right _ (List.mem_append_right _ (List.mem_append_right _ (List.mem_of_getElem? (i := 130) rfl))))) rfl
theorem wd_851 : Cond.methodLink "SuitByTailorsLaw" 66 ⟨"SuitByTailorsModel", "bribes", "(I)I"⟩ ∈ wG := wG_of (List.mem_append_right _ (List.mem_append_right _ (List.mem_append_right _ (List.mem_append_right _ (List.mem_of_getElem? (i := 131) rfl))))) rfl
theorem wd_852 : Cond.instanceMethod ⟨"SuitByTailorsModel", "bribes", "(I)I"⟩ ∈ wG := wG_of (List.mem_append_right _ (List.mem_append_right _ (List.mem_append_right _ (List.mem_append_right _ (List.mem_of_getElem? (i := 132) rfl))))) rfl
theorem wd_853 : Cond.selects "SuitByTailorsModel" ⟨"SuitByTailorsModel", "bribes", "(I)I"⟩ ⟨"SuitByTailorsModel", "bribes", "(I)I"⟩ ∈ wG := wG_of (List.mem_append_right _ (List.mem_append_right _ (List.mem_append_right _ (List.mem_append_right _ (List.mem_of_getElem? (i := 133) rfl))))) rfl
theorem wd_854 : Cond.code ⟨"SuitByTailorsModel", "bribes", "(I)I"⟩ prog_11_method_33_code 8 (some .int) ∈ wG := wG_of (List.mem_append_right _ (List.mem_append_right _ (List.mem_append_right _ (List.mem_append_right _ (List.mem_of_getElem? (i := 134) rfl))))) rfl
theorem wd_855 : Cond.methodLink "SuitByTailorsLaw" 70 ⟨"SuitByTailorsModel", "closed", "(I)I"⟩ ∈ wG := wG_of (List.mem_append_right _ (List.mem_append_right _ (List.mem_append_right _ (List.mem_append_right _ (List.mem_of_getElem? (i := 135) rfl))))) rfl
theorem wd_856 : Cond.instanceMethod ⟨"SuitByTailorsModel", "closed", "(I)I"⟩ ∈ wG := wG_of (List.mem_append_right _ (List.mem_append_right _ (List.mem_append_right _ (List.mem_append_right _ (List.mem_of_getElem? (i := 136) rfl))))) rfl
theorem wd_857 : Cond.selects "SuitByTailorsModel" ⟨"SuitByTailorsModel", "closed", "(I)I"⟩ ⟨"SuitByTailorsModel", "closed", "(I)I"⟩ ∈ wG := wG_of (List.mem_append_right _ (List.mem_append_right _ (List.mem_append_right _ (List.mem_append_right _ (List.mem_of_getElem? (i := 137) rfl))))) rfl
theorem wd_858 : Cond.code ⟨"SuitByTailorsModel", "closed", "(I)I"⟩ prog_11_method_34_code 7 (some .int) ∈ wG := wG_of (List.mem_append_right _ (List.mem_append_right _ (List.mem_append_right _ (List.mem_append_right _ (List.mem_of_getElem? (i := 138) rfl))))) rfl
theorem wd_859 : Cond.methodLink "SuitByTailorsLaw" 75 ⟨"SuitByTailorsModel", "seen", "(III)I"⟩ ∈ wG := wG_of (List.mem_append_right _ (List.mem_append_right _ (List.mem_append_right _ (List.mem_append_right _ (List.mem_of_getElem? (i := 139) rfl))))) rfl
theorem wd_860 : Cond.instanceMethod ⟨"SuitByTailorsModel", "seen", "(III)I"⟩ ∈ wG := wG_of (List.mem_append_right _ (List.mem_append_right _ (List.mem_append_right _ (List.mem_append_right _ (List.mem_of_getElem? (i := 140) rfl))))) rfl
theorem wd_861 : Cond.selects "SuitByTailorsModel" ⟨"SuitByTailorsModel", "seen", "(III)I"⟩ ⟨"SuitByTailorsModel", "seen", "(III)I"⟩ ∈ wG := wG_of (List.mem_append_right _ (List.mem_append_right _ (List.mem_append_right _ (List.mem_append_right _ (List.mem_of_getElem? (i := 141) rfl))))) rfl
theorem wd_862 : Cond.code ⟨"SuitByTailorsModel", "seen", "(III)I"⟩ prog_11_method_35_code 4 (some .int) ∈ wG := wG_of (List.mem_append_right _ (List.mem_append_right _ (List.mem_append_right _ (List.mem_append_right _ (List.mem_of_getElem? (i := 142) rfl))))) rfl
theorem wd_863 : Cond.methodLink "SuitByTailorsModel" 185 ⟨"SuitByTailorsModel", "isTailor", "(I)Z"⟩ ∈ wG := wG_of (List.mem_append_right _ (List.mem_append_right _ (List.mem_append_right _ (List.mem_append_right _ (List.mem_of_getElem? (i := 143) rfl))))) rfl
theorem wd_865 : Cond.instanceMethod ⟨"SuitByTailorsModel", "isTailor", "(I)Z"⟩ ∈ wG := wG_of (List.mem_append_right _ (List.mem_append_right _ (List.mem_append_right _ (List.mem_append_right _ (List.mem_of_getElem? (i := 145) rfl))))) rfl
theorem wd_866 : Cond.code ⟨"SuitByTailorsModel", "isTailor", "(I)Z"⟩ prog_11_method_14_code 2 (some .boolean) ∈ wG := wG_of (List.mem_append_right _ (List.mem_append_right _ (List.mem_append_right _ (List.mem_append_right _ (List.mem_of_getElem? (i := 146) rfl))))) rfl
theorem wd_867 : Cond.methodLink "SuitByTailorsLaw" 79 ⟨"SuitByTailorsModel", "forget", "()I"⟩ ∈ wG := wG_of (List.mem_append_right _ (List.mem_append_right _ (List.mem_append_right _ (List.mem_append_right _ (List.mem_of_getElem? (i := 147) rfl))))) rfl
theorem wd_868 : Cond.instanceMethod ⟨"SuitByTailorsModel", "forget", "()I"⟩ ∈ wG := wG_of (List.mem_append_right _ (List.mem_append_right _ (List.mem_append_right _ (List.mem_append_right _ (List.mem_of_getElem? (i := 148) rfl))))) rfl
theorem wd_869 : Cond.selects "SuitByTailorsModel" ⟨"SuitByTailorsModel", "forget", "()I"⟩ ⟨"SuitByTailorsModel", "forget", "()I"⟩ ∈ wG := wG_of (List.mem_append_right _ (List.mem_append_right _ (List.mem_append_right _ (List.mem_append_right _ (List.mem_of_getElem? (i := 149) rfl))))) rfl
theorem wd_870 : Cond.code ⟨"SuitByTailorsModel", "forget", "()I"⟩ prog_11_method_36_code 2 (some .int) ∈ wG := wG_of (List.mem_append_right _ (List.mem_append_right _ (List.mem_append_right _ (List.mem_append_right _ (List.mem_of_getElem? (i := 150) rfl))))) rfl
theorem wd_871 : Cond.methodLink "SuitByTailorsLaw" 83 ⟨"SuitByTailorsModel", "inch", "(II)I"⟩ ∈ wG := wG_of (List.mem_append_right _ (List.mem_append_right _ (List.mem_append_right _ (List.mem_append_right _ (List.mem_of_getElem? (i := 151) rfl))))) rfl
theorem wd_872 : Cond.instanceMethod ⟨"SuitByTailorsModel", "inch", "(II)I"⟩ ∈ wG := wG_of (List.mem_append_right _ (List.mem_append_right _ (List.mem_append_right _ (List.mem_append_right _ (List.mem_of_getElem? (i := 152) rfl))))) rfl
theorem wd_873 : Cond.selects "SuitByTailorsModel" ⟨"SuitByTailorsModel", "inch", "(II)I"⟩ ⟨"SuitByTailorsModel", "inch", "(II)I"⟩ ∈ wG := wG_of (List.mem_append_right _ (List.mem_append_right _ (List.mem_append_right _ (List.mem_append_right _ (List.mem_of_getElem? (i := 153) rfl))))) rfl
theorem wd_874 : Cond.code ⟨"SuitByTailorsModel", "inch", "(II)I"⟩ prog_11_method_37_code 8 (some .int) ∈ wG := wG_of (List.mem_append_right _ (List.mem_append_right _ (List.mem_append_right _ (List.mem_append_right _ (List.mem_of_getElem? (i := 154) rfl))))) rfl
theorem wd_875 : Cond.methodLink "SuitByTailorsLaw" 87 ⟨"SuitByTailorsModel", "added", "(II)I"⟩ ∈ wG := wG_of (List.mem_append_right _ (List.mem_append_right _ (List.mem_append_right _ (List.mem_append_right _ (List.mem_of_getElem? (i := 155) rfl))))) rfl
theorem wd_876 : Cond.instanceMethod ⟨"SuitByTailorsModel", "added", "(II)I"⟩ ∈ wG := wG_of (List.mem_append_right _ (List.mem_append_right _ (List.mem_append_right _ (List.mem_append_right _ (List.mem_of_getElem? (i := 156) rfl))))) rfl
theorem wd_877 : Cond.selects "SuitByTailorsModel" ⟨"SuitByTailorsModel", "added", "(II)I"⟩ ⟨"SuitByTailorsModel", "added", "(II)I"⟩ ∈ wG := wG_of (List.mem_append_right _ (List.mem_append_right _ (List.mem_append_right _ (List.mem_append_right _ (List.mem_of_getElem? (i := 157) rfl))))) rfl
theorem wd_878 : Cond.code ⟨"SuitByTailorsModel", "added", "(II)I"⟩ prog_11_method_38_code 4 (some .int) ∈ wG := wG_of (List.mem_append_right _ (List.mem_append_right _ (List.mem_append_right _ (List.mem_append_right _ (List.mem_of_getElem? (i := 158) rfl))))) rfl
theorem wd_879 : Cond.methodLink "SuitByTailorsLaw" 91 ⟨"SuitByTailorsModel", "bolts", "(I)I"⟩ ∈ wG := wG_of (List.mem_append_right _ (List.mem_append_right _ (List.mem_append_right _ (List.mem_append_right _ (List.mem_of_getElem? (i := 159) rfl))))) rfl
theorem wd_880 : Cond.instanceMethod ⟨"SuitByTailorsModel", "bolts", "(I)I"⟩ ∈ wG := wG_of (List.mem_append_right _ (List.mem_append_right _ (List.mem_append_right _ (List.mem_append_right _ (List.mem_of_getElem? (i := 160) rfl))))) rfl
theorem wd_881 : Cond.selects "SuitByTailorsModel" ⟨"SuitByTailorsModel", "bolts", "(I)I"⟩ ⟨"SuitByTailorsModel", "bolts", "(I)I"⟩ ∈ wG := wG_of (List.mem_append_right _ (List.mem_append_right _ (List.mem_append_right _ (List.mem_append_right _ (List.mem_of_getElem? (i := 161) rfl))))) rfl
theorem wd_882 : Cond.code ⟨"SuitByTailorsModel", "bolts", "(I)I"⟩ prog_11_method_41_code 6 (some .int) ∈ wG := wG_of (List.mem_append_right _ (List.mem_append_right _ (List.mem_append_right _ (List.mem_append_right _ (List.mem_of_getElem? (i := 162) rfl))))) rfl
theorem wd_883 : Cond.methodLink "SuitByTailorsModel" 188 ⟨"SuitByTailorsModel", "many", "()I"⟩ ∈ wG := wG_of (List.mem_append_right _ (List.mem_append_right _ (List.mem_append_right _ (List.mem_append_right _ (List.mem_of_getElem? (i := 163) rfl))))) rfl
theorem wd_885 : Cond.instanceMethod ⟨"SuitByTailorsModel", "many", "()I"⟩ ∈ wG := wG_of (List.mem_append_right _ (List.mem_append_right _ (List.mem_append_right _ (List.mem_append_right _ (List.mem_of_getElem? (i := 165) rfl))))) rfl
theorem wd_886 : Cond.code ⟨"SuitByTailorsModel", "many", "()I"⟩ prog_11_method_40_code 3 (some .int) ∈ wG := wG_of (List.mem_append_right _ (List.mem_append_right _ (List.mem_append_right _ (List.mem_append_right _ (List.mem_of_getElem? (i := 166) rfl))))) rfl
theorem wd_887 : Cond.methodLink "SuitByTailorsModel" 191 ⟨"SuitByTailorsModel", "nextBolts", "()Z"⟩ ∈ wG := wG_of (List.mem_append_right _ (List.mem_append_right _ (List.mem_append_right _ (List.mem_append_right _ (List.mem_of_getElem? (i := 167) rfl))))) rfl
theorem wd_889 : Cond.instanceMethod ⟨"SuitByTailorsModel", "nextBolts", "()Z"⟩ ∈ wG := wG_of (List.mem_append_right _ (List.mem_append_right _ (List.mem_append_right _ (List.mem_append_right _ (List.mem_of_getElem? (i := 169) rfl))))) rfl
theorem wd_890 : Cond.code ⟨"SuitByTailorsModel", "nextBolts", "()Z"⟩ prog_11_method_39_code 4 (some .boolean) ∈ wG := wG_of (List.mem_append_right _ (List.mem_append_right _ (List.mem_append_right _ (List.mem_append_right _ (List.mem_of_getElem? (i := 170) rfl))))) rfl
theorem wd_891 : Cond.methodLink "SuitByTailorsLaw" 95 ⟨"SuitByTailorsModel", "coat", "(I)I"⟩ ∈ wG := wG_of (List.mem_append_right _ (List.mem_append_right _ (List.mem_append_right _ (List.mem_append_right _ (List.mem_of_getElem? (i := 171) rfl))))) rfl
theorem wd_892 : Cond.instanceMethod ⟨"SuitByTailorsModel", "coat", "(I)I"⟩ ∈ wG := wG_of (List.mem_append_right _ (List.mem_append_right _ (List.mem_append_right _ (List.mem_append_right _ (List.mem_of_getElem? (i := 172) rfl))))) rfl
theorem wd_893 : Cond.selects "SuitByTailorsModel" ⟨"SuitByTailorsModel", "coat", "(I)I"⟩ ⟨"SuitByTailorsModel", "coat", "(I)I"⟩ ∈ wG := wG_of (List.mem_append_right _ (List.mem_append_right _ (List.mem_append_right _ (List.mem_append_right _ (List.mem_of_getElem? (i := 173) rfl))))) rfl
theorem wd_894 : Cond.code ⟨"SuitByTailorsModel", "coat", "(I)I"⟩ prog_11_method_42_code 7 (some .int) ∈ wG := wG_of (List.mem_append_right _ (List.mem_append_right _ (List.mem_append_right _ (List.mem_append_right _ (List.mem_of_getElem? (i := 174) rfl))))) rfl
theorem wd_895 : Cond.methodLink "SuitByTailorsLaw" 99 ⟨"SuitByTailorsModel", "pin", "(I)I"⟩ ∈ wG := wG_of (List.mem_append_right _ (List.mem_append_right _ (List.mem_append_right _ (List.mem_append_right _ (List.mem_of_getElem? (i := 175) rfl))))) rfl
theorem wd_896 : Cond.instanceMethod ⟨"SuitByTailorsModel", "pin", "(I)I"⟩ ∈ wG := wG_of (List.mem_append_right _ (List.mem_append_right _ (List.mem_append_right _ (List.mem_append_right _ (List.mem_of_getElem? (i := 176) rfl))))) rfl
theorem wd_897 : Cond.selects "SuitByTailorsModel" ⟨"SuitByTailorsModel", "pin", "(I)I"⟩ ⟨"SuitByTailorsModel", "pin", "(I)I"⟩ ∈ wG := wG_of (List.mem_append_right _ (List.mem_append_right _ (List.mem_append_right _ (List.mem_append_right _ (List.mem_of_getElem? (i := 177) rfl))))) rfl
theorem wd_898 : Cond.code ⟨"SuitByTailorsModel", "pin", "(I)I"⟩ prog_11_method_44_code 2 (some .int) ∈ wG := wG_of (List.mem_append_right _ (List.mem_append_right _ (List.mem_append_right _ (List.mem_append_right _ (List.mem_of_getElem? (i := 178) rfl))))) rfl
theorem wd_899 : Cond.methodLink "SuitByTailorsModel" 194 ⟨"SuitByTailorsModel", "tailorOf", "(II)I"⟩ ∈ wG := wG_of (List.mem_append_right _ (List.mem_append_right _ (List.mem_append_right _ (List.mem_append_right _ (List.mem_of_getElem? (i := 179) rfl))))) rfl
theorem wd_901 : Cond.instanceMethod ⟨"SuitByTailorsModel", "tailorOf", "(II)I"⟩ ∈ wG := wG_of (List.mem_append_right _ (List.mem_append_right _ (List.mem_append_right _ (List.mem_append_right _ (List.mem_of_getElem? (i := 181) rfl))))) rfl
theorem wd_902 : Cond.code ⟨"SuitByTailorsModel", "tailorOf", "(II)I"⟩ prog_11_method_43_code 3 (some .int) ∈ wG := wG_of (List.mem_append_right _ (List.mem_append_right _ (List.mem_append_right _ (List.mem_append_right _ (List.mem_of_getElem? (i := 182) rfl))))) rfl
theorem wd_903 : Cond.methodLink "SuitByTailorsLaw" 103 ⟨"SuitByTailorsModel", "noPins", "()I"⟩ ∈ wG := wG_of (List.mem_append_right _ (List.mem_append_right _ (List.mem_append_right _ (List.mem_append_right _ (List.mem_of_getElem? (i := 183) rfl))))) rfl
theorem wd_904 : Cond.instanceMethod ⟨"SuitByTailorsModel", "noPins", "()I"⟩ ∈ wG := wG_of (List.mem_append_right _ (List.mem_append_right _ (List.mem_append_right _ (List.mem_append_right _ (List.mem_of_getElem? (i := 184) rfl))))) rfl
theorem wd_905 : Cond.selects "SuitByTailorsModel" ⟨"SuitByTailorsModel", "noPins", "()I"⟩ ⟨"SuitByTailorsModel", "noPins", "()I"⟩ ∈ wG := wG_of (List.mem_append_right _ (List.mem_append_right _ (List.mem_append_right _ (List.mem_append_right _ (List.mem_of_getElem? (i := 185) rfl))))) rfl
theorem wd_906 : Cond.code ⟨"SuitByTailorsModel", "noPins", "()I"⟩ prog_11_method_45_code 2 (some .int) ∈ wG := wG_of (List.mem_append_right _ (List.mem_append_right _ (List.mem_append_right _ (List.mem_append_right _ (List.mem_of_getElem? (i := 186) rfl))))) rfl
theorem wd_907 : Cond.methodLink "SuitByTailorsLaw" 107 ⟨"SuitByTailorsModel", "thumb", "(I)I"⟩ ∈ wG := wG_of (List.mem_append_right _ (List.mem_append_right _ (List.mem_append_right _ (List.mem_append_right _ (List.mem_of_getElem? (i := 187) rfl))))) rfl
theorem wd_908 : Cond.instanceMethod ⟨"SuitByTailorsModel", "thumb", "(I)I"⟩ ∈ wG := wG_of (List.mem_append_right _ (List.mem_append_right _ (List.mem_append_right _ (List.mem_append_right _ (List.mem_of_getElem? (i := 188) rfl))))) rfl
theorem wd_909 : Cond.selects "SuitByTailorsModel" ⟨"SuitByTailorsModel", "thumb", "(I)I"⟩ ⟨"SuitByTailorsModel", "thumb", "(I)I"⟩ ∈ wG := wG_of (List.mem_append_right _ (List.mem_append_right _ (List.mem_append_right _ (List.mem_append_right _ (List.mem_of_getElem? (i := 189) rfl))))) rfl
theorem wd_910 : Cond.code ⟨"SuitByTailorsModel", "thumb", "(I)I"⟩ prog_11_method_46_code 4 (some .int) ∈ wG := wG_of (List.mem_append_right _ (List.mem_append_right _ (List.mem_append_right _ (List.mem_append_right _ (List.mem_of_getElem? (i := 190) rfl))))) rfl
theorem wd_911 : Cond.methodLink "SuitByTailorsLaw" 111 ⟨"SuitByTailorsModel", "year", "(III)I"⟩ ∈ wG := wG_of (List.mem_append_right _ (List.mem_append_right _ (List.mem_append_right _ (List.mem_append_right _ (List.mem_of_getElem? (i := 191) rfl))))) rfl
theorem wd_912 : Cond.instanceMethod ⟨"SuitByTailorsModel", "year", "(III)I"⟩ ∈ wG := wG_of (List.mem_append_right _ (List.mem_append_right _ (List.mem_append_right _ (List.mem_append_right _ (List.mem_of_getElem? (i := 192) rfl))))) rfl
theorem wd_913 : Cond.selects "SuitByTailorsModel" ⟨"SuitByTailorsModel", "year", "(III)I"⟩ ⟨"SuitByTailorsModel", "year", "(III)I"⟩ ∈ wG := wG_of (List.mem_append_right _ (List.mem_append_right _ (List.mem_append_right _ (List.mem_append_right _ (List.mem_of_getElem? (i := 193) rfl))))) rfl
theorem wd_914 : Cond.code ⟨"SuitByTailorsModel", "year", "(III)I"⟩ prog_11_method_47_code 8 (some .int) ∈ wG := wG_of (List.mem_append_right _ (List.mem_append_right _ (List.mem_append_right _ (List.mem_append_right _ (List.mem_of_getElem? (i := 194) rfl))))) rfl
theorem wd_915 : Cond.constantLong "SuitByTailorsModel" 197 (999 : Int64) ∈ wG := wG_of (List.mem_append_right _ (List.mem_append_right _ (List.mem_append_right _ (List.mem_append_right _ (List.mem_of_getElem? (i := 195) rfl))))) rfl
theorem wd_916 : Cond.constantLong "SuitByTailorsModel" 199 (100 : Int64) ∈ wG := wG_of (List.mem_append_right _ (List.mem_append_right _ (List.mem_append_right _ (List.mem_append_right _ (List.mem_of_getElem? (i := 196) rfl))))) rfl
theorem wd_917 : Cond.methodLink "SuitByTailorsLaw" 115 ⟨"SuitByTailorsModel", "keep", "()I"⟩ ∈ wG := wG_of (List.mem_append_right _ (List.mem_append_right _ (List.mem_append_right _ (List.mem_append_right _ (List.mem_of_getElem? (i := 197) rfl))))) rfl
theorem wd_918 : Cond.instanceMethod ⟨"SuitByTailorsModel", "keep", "()I"⟩ ∈ wG := wG_of (List.mem_append_right _ (List.mem_append_right _ (List.mem_append_right _ (List.mem_append_right _ (List.mem_of_getElem? (i := 198) rfl))))) rfl
theorem wd_919 : Cond.selects "SuitByTailorsModel" ⟨"SuitByTailorsModel", "keep", "()I"⟩ ⟨"SuitByTailorsModel", "keep", "()I"⟩ ∈ wG := wG_of (List.mem_append_right _ (List.mem_append_right _ (List.mem_append_right _ (List.mem_append_right _ (List.mem_of_getElem? (i := 199) rfl))))) rfl
theorem wd_920 : Cond.code ⟨"SuitByTailorsModel", "keep", "()I"⟩ prog_11_method_48_code 1 (some .int) ∈ wG := wG_of (List.mem_append_right _ (List.mem_append_right _ (List.mem_append_right _ (List.mem_append_right _ (List.mem_of_getElem? (i := 200) rfl))))) rfl
theorem wd_921 : Cond.methodLink "SuitByTailorsLaw" 119 ⟨"SuitByTailorsModel", "back", "()I"⟩ ∈ wG := wG_of (List.mem_append_right _ (List.mem_append_right _ (List.mem_append_right _ (List.mem_append_right _ (List.mem_of_getElem? (i := 201) rfl))))) rfl
theorem wd_922 : Cond.instanceMethod ⟨"SuitByTailorsModel", "back", "()I"⟩ ∈ wG := wG_of (List.mem_append_right _ (List.mem_append_right _ (List.mem_append_right _ (List.mem_append_right _ (List.mem_of_getElem? (i := 202) rfl))))) rfl
theorem wd_923 : Cond.selects "SuitByTailorsModel" ⟨"SuitByTailorsModel", "back", "()I"⟩ ⟨"SuitByTailorsModel", "back", "()I"⟩ ∈ wG := wG_of (List.mem_append_right _ (List.mem_append_right _ (List.mem_append_right _ (List.mem_append_right _ (List.mem_of_getElem? (i := 203) rfl))))) rfl
theorem wd_924 : Cond.code ⟨"SuitByTailorsModel", "back", "()I"⟩ prog_11_method_49_code 1 (some .int) ∈ wG := wG_of (List.mem_append_right _ (List.mem_append_right _ (List.mem_append_right _ (List.mem_append_right _ (List.mem_of_getElem? (i := 204) rfl))))) rfl
theorem wd_925 : Cond.methodLink "SuitByTailorsLaw" 123 ⟨"SuitByTailorsModel", "count", "(I)I"⟩ ∈ wG := wG_of (List.mem_append_right _ (List.mem_append_right _ (List.mem_append_right _ (List.mem_append_right _ (List.mem_of_getElem? (i := 205) rfl))))) rfl
theorem wd_926 : Cond.instanceMethod ⟨"SuitByTailorsModel", "count", "(I)I"⟩ ∈ wG := wG_of (List.mem_append_right _ (List.mem_append_right _ (List.mem_append_right _ (List.mem_append_right _ (List.mem_of_getElem? (i := 206) rfl))))) rfl
theorem wd_927 : Cond.selects "SuitByTailorsModel" ⟨"SuitByTailorsModel", "count", "(I)I"⟩ ⟨"SuitByTailorsModel", "count", "(I)I"⟩ ∈ wG := wG_of (List.mem_append_right _ (List.mem_append_right _ (List.mem_append_right _ (List.mem_append_right _ (List.mem_of_getElem? (i := 207) rfl))))) rfl
theorem wd_928 : Cond.code ⟨"SuitByTailorsModel", "count", "(I)I"⟩ prog_11_method_50_code 2 (some .int) ∈ wG := wG_of (List.mem_append_right _ (List.mem_append_right _ (List.mem_append_right _ (List.mem_append_right _ (List.mem_of_getElem? (i := 208) rfl))))) rfl
theorem wd_929 : Cond.constantLong "SuitByTailorsLaw" 13 (4294967295 : Int64) ∈ wG := wG_of (List.mem_append_right _ (List.mem_append_right _ (List.mem_append_right _ (List.mem_append_right _ (List.mem_of_getElem? (i := 209) rfl))))) rfl
theorem wd_930 : Cond.fieldLink "java/lang/String" 9 "java/lang/String" "value" "[B" ∈ wG := wG_of (List.mem_append_right _ (List.mem_append_right _ (List.mem_append_right _ (List.mem_append_right _ (List.mem_of_getElem? (i := 210) rfl))))) rfl
theorem wd_931 : Cond.fieldLink "java/lang/String" 15 "java/lang/String" "coder" "B" ∈ wG := wG_of (List.mem_append_right _ (List.mem_append_right _ (List.mem_append_right _ (List.mem_append_right _ (List.mem_of_getElem? (i := 211) rfl))))) rfl
theorem z_inX0 : ∀ w ∈ wsX00, w ∈ wG := by
  intro w hw
  obtain ⟨k, hk, rfl⟩ := List.mem_map.mp hw
  have hk := List.mem_range.mp hk
  match k, hk with
  | 0, _ => exact wd_165
  | 1, _ => exact wd_167
  | 2, _ => exact wd_169
  | k + 3, h => exact absurd h (by omega)
theorem z_inX1 : ∀ w ∈ wsX10, w ∈ wG := by
  intro w hw
  obtain ⟨k, hk, rfl⟩ := List.mem_map.mp hw
  have hk := List.mem_range.mp hk
  match k, hk with
  | 0, _ => exact wd_58
  | 1, _ => exact wd_60
  | k + 2, h => exact absurd h (by omega)
theorem z_inX2 : ∀ w ∈ wsX20, w ∈ wG := by
  intro w hw
  obtain ⟨k, hk, rfl⟩ := List.mem_map.mp hw
  have hk := List.mem_range.mp hk
  match k, hk with
  | 0, _ => exact wd_78
  | 1, _ => exact wd_80
  | 2, _ => exact wd_82
  | 3, _ => exact wd_84
  | 4, _ => exact wd_86
  | k + 5, h => exact absurd h (by omega)
theorem z_inX3 : ∀ w ∈ wsX30, w ∈ wG := by
  intro w hw
  obtain ⟨k, hk, rfl⟩ := List.mem_map.mp hw
  have hk := List.mem_range.mp hk
  match k, hk with
  | 0, _ => exact wd_142
  | 1, _ => exact wd_144
  | 2, _ => exact wd_146
  | 3, _ => exact wd_148
  | 4, _ => exact wd_150
  | 5, _ => exact wd_152
  | k + 6, h => exact absurd h (by omega)
theorem z_inX4 : ∀ w ∈ wsX40, w ∈ wG := by
  intro w hw
  obtain ⟨k, hk, rfl⟩ := List.mem_map.mp hw
  have hk := List.mem_range.mp hk
  match k, hk with
  | 0, _ => exact wd_120
  | 1, _ => exact wd_122
  | 2, _ => exact wd_124
  | k + 3, h => exact absurd h (by omega)
theorem z_inX5 : ∀ w ∈ wsX50, w ∈ wG := by
  intro w hw
  obtain ⟨k, hk, rfl⟩ := List.mem_map.mp hw
  have hk := List.mem_range.mp hk
  match k, hk with
  | 0, _ => exact wd_206
  | 1, _ => exact wd_208
  | 2, _ => exact wd_210
  | 3, _ => exact wd_212
  | 4, _ => exact wd_214
  | 5, _ => exact wd_216
  | 6, _ => exact wd_218
  | 7, _ => exact wd_220
  | 8, _ => exact wd_222
  | 9, _ => exact wd_224
  | 10, _ => exact wd_226
  | 11, _ => exact wd_228
  | k + 12, h => exact absurd h (by omega)
theorem z_inX6 : ∀ w ∈ wsX60, w ∈ wG := by
  intro w hw
  obtain ⟨k, hk, rfl⟩ := List.mem_map.mp hw
  have hk := List.mem_range.mp hk
  match k, hk with
  | 0, _ => exact wd_100
  | 1, _ => exact wd_102
  | 2, _ => exact wd_104
  | 3, _ => exact wd_106
  | k + 4, h => exact absurd h (by omega)
theorem z_inX7 : ∀ w ∈ wsX70, w ∈ wG := by
  intro w hw
  obtain ⟨k, hk, rfl⟩ := List.mem_map.mp hw
  have hk := List.mem_range.mp hk
  match k, hk with
  | 0, _ => exact wd_34
  | 1, _ => exact wd_36
  | 2, _ => exact wd_38
  | k + 3, h => exact absurd h (by omega)
theorem z_inX8 : ∀ w ∈ wsX80, w ∈ wG := by
  intro w hw
  obtain ⟨k, hk, rfl⟩ := List.mem_map.mp hw
  have hk := List.mem_range.mp hk
  match k, hk with
  | 0, _ => exact wd_357
  | 1, _ => exact wd_359
  | 2, _ => exact wd_361
  | 3, _ => exact wd_363
  | 4, _ => exact wd_365
  | 5, _ => exact wd_367
  | 6, _ => exact wd_369
  | 7, _ => exact wd_371
  | 8, _ => exact wd_373
  | 9, _ => exact wd_375
  | 10, _ => exact wd_377
  | 11, _ => exact wd_379
  | 12, _ => exact wd_381
  | 13, _ => exact wd_383
  | k + 14, h => exact absurd h (by omega)
theorem z_inX9 : ∀ w ∈ wsX90, w ∈ wG := by
  intro w hw
  obtain ⟨k, hk, rfl⟩ := List.mem_map.mp hw
  have hk := List.mem_range.mp hk
  match k, hk with
  | 0, _ => exact wd_676
  | 1, _ => exact wd_678
  | 2, _ => exact wd_680
  | 3, _ => exact wd_682
  | 4, _ => exact wd_684
  | 5, _ => exact wd_686
  | 6, _ => exact wd_688
  | 7, _ => exact wd_690
  | 8, _ => exact wd_692
  | 9, _ => exact wd_694
  | 10, _ => exact wd_696
  | 11, _ => exact wd_698
  | 12, _ => exact wd_700
  | 13, _ => exact wd_702
  | 14, _ => exact wd_704
  | 15, _ => exact wd_706
  | 16, _ => exact wd_708
  | 17, _ => exact wd_710
  | 18, _ => exact wd_712
  | 19, _ => exact wd_714
  | 20, _ => exact wd_716
  | 21, _ => exact wd_718
  | 22, _ => exact wd_720
  | k + 23, h => exact absurd h (by omega)
end
