-- ===== PART A: goes FIRST, ahead of the names: the tables' words, and 'selects' of the private methods out of them =====
/-- a private method of a class that the tables say can be made, by its rows of tables_1 -/
def lw_okq (q : MethodName × Nat) : Prop := (q.1.cls ≠ "java/lang/invoke/MethodHandle" ∧ q.1.cls ≠ "java/lang/invoke/VarHandle") ∧ Cond.instantiable q.1.cls q.2 ∈ tables_1 ∧ Cond.privateMethod q.1 ∈ tables_1 ∧ Cond.instanceMethod q.1 ∈ tables_1
theorem lw_p0 : lw_okq (⟨"CrankedExcuse$Text", "readItem", "(LCrankedExcuse$Plan;)Z"⟩, 4) := ⟨⟨by decide +kernel, by decide +kernel⟩, List.mem_of_getElem? (i := 25) (by decide +kernel), List.mem_of_getElem? (i := 277) (by decide +kernel), List.mem_of_getElem? (i := 278) (by decide +kernel)⟩
theorem lw_p1 : lw_okq (⟨"CrankedExcuse$Text", "letterAt", "(I)I"⟩, 4) := ⟨⟨by decide +kernel, by decide +kernel⟩, List.mem_of_getElem? (i := 25) (by decide +kernel), List.mem_of_getElem? (i := 281) (by decide +kernel), List.mem_of_getElem? (i := 282) (by decide +kernel)⟩
theorem lw_p2 : lw_okq (⟨"CrankedExcuse$Text", "readNumber", "()I"⟩, 4) := ⟨⟨by decide +kernel, by decide +kernel⟩, List.mem_of_getElem? (i := 25) (by decide +kernel), List.mem_of_getElem? (i := 288) (by decide +kernel), List.mem_of_getElem? (i := 289) (by decide +kernel)⟩
theorem lw_p3 : lw_okq (⟨"CrankedExcuse$Text", "figureAt", "(I)I"⟩, 4) := ⟨⟨by decide +kernel, by decide +kernel⟩, List.mem_of_getElem? (i := 25) (by decide +kernel), List.mem_of_getElem? (i := 292) (by decide +kernel), List.mem_of_getElem? (i := 293) (by decide +kernel)⟩
theorem lw_p4 : lw_okq (⟨"CrankedExcuse$Plan", "addWheel", "(III)Z"⟩, 12) := ⟨⟨by decide +kernel, by decide +kernel⟩, List.mem_of_getElem? (i := 160) (by decide +kernel), List.mem_of_getElem? (i := 306) (by decide +kernel), List.mem_of_getElem? (i := 307) (by decide +kernel)⟩
theorem lw_p5 : lw_okq (⟨"CrankedExcuse$Plan", "addClash", "(IIII)Z"⟩, 12) := ⟨⟨by decide +kernel, by decide +kernel⟩, List.mem_of_getElem? (i := 160) (by decide +kernel), List.mem_of_getElem? (i := 311) (by decide +kernel), List.mem_of_getElem? (i := 312) (by decide +kernel)⟩
theorem lw_p6 : lw_okq (⟨"CrankedExcuse$Plan", "isToothTold", "(II)Z"⟩, 12) := ⟨⟨by decide +kernel, by decide +kernel⟩, List.mem_of_getElem? (i := 160) (by decide +kernel), List.mem_of_getElem? (i := 315) (by decide +kernel), List.mem_of_getElem? (i := 316) (by decide +kernel)⟩
theorem lw_p7 : lw_okq (⟨"CrankedExcuse$Plan", "addPerson", "(I)Z"⟩, 12) := ⟨⟨by decide +kernel, by decide +kernel⟩, List.mem_of_getElem? (i := 160) (by decide +kernel), List.mem_of_getElem? (i := 322) (by decide +kernel), List.mem_of_getElem? (i := 323) (by decide +kernel)⟩
theorem lw_p8 : lw_okq (⟨"CrankedExcuse$Plan", "setWorth", "(II)Z"⟩, 12) := ⟨⟨by decide +kernel, by decide +kernel⟩, List.mem_of_getElem? (i := 160) (by decide +kernel), List.mem_of_getElem? (i := 326) (by decide +kernel), List.mem_of_getElem? (i := 327) (by decide +kernel)⟩
theorem lw_p9 : lw_okq (⟨"CrankedExcuse", "isWheel", "(I)Z"⟩, 9) := ⟨⟨by decide +kernel, by decide +kernel⟩, List.mem_of_getElem? (i := 17) (by decide +kernel), List.mem_of_getElem? (i := 396) (by decide +kernel), List.mem_of_getElem? (i := 397) (by decide +kernel)⟩
theorem lw_p10 : lw_okq (⟨"CrankedExcuse", "isPerson", "(I)Z"⟩, 9) := ⟨⟨by decide +kernel, by decide +kernel⟩, List.mem_of_getElem? (i := 17) (by decide +kernel), List.mem_of_getElem? (i := 406) (by decide +kernel), List.mem_of_getElem? (i := 407) (by decide +kernel)⟩
theorem lw_p11 : lw_okq (⟨"CrankedExcuse", "isHeard", "(I)Z"⟩, 9) := ⟨⟨by decide +kernel, by decide +kernel⟩, List.mem_of_getElem? (i := 17) (by decide +kernel), List.mem_of_getElem? (i := 418) (by decide +kernel), List.mem_of_getElem? (i := 419) (by decide +kernel)⟩
theorem lw_p12 : lw_okq (⟨"CrankedExcuse", "isExcuse", "(I)Z"⟩, 9) := ⟨⟨by decide +kernel, by decide +kernel⟩, List.mem_of_getElem? (i := 17) (by decide +kernel), List.mem_of_getElem? (i := 426) (by decide +kernel), List.mem_of_getElem? (i := 427) (by decide +kernel)⟩
theorem lw_p13 : lw_okq (⟨"CrankedExcuse$Shelf", "placeAt", "(I)LCrankedExcuse$Box;"⟩, 3) := ⟨⟨by decide +kernel, by decide +kernel⟩, List.mem_of_getElem? (i := 67) (by decide +kernel), List.mem_of_getElem? (i := 468) (by decide +kernel), List.mem_of_getElem? (i := 469) (by decide +kernel)⟩
theorem lw_p14 : lw_okq (⟨"CrankedExcuse$Box", "isSeenThrough", "(LCrankedExcuse$Plan;III)Z"⟩, 11) := ⟨⟨by decide +kernel, by decide +kernel⟩, List.mem_of_getElem? (i := 74) (by decide +kernel), List.mem_of_getElem? (i := 516) (by decide +kernel), List.mem_of_getElem? (i := 517) (by decide +kernel)⟩
theorem lw_p15 : lw_okq (⟨"CrankedExcuse$Box", "dropFirst", "()V"⟩, 11) := ⟨⟨by decide +kernel, by decide +kernel⟩, List.mem_of_getElem? (i := 74) (by decide +kernel), List.mem_of_getElem? (i := 521) (by decide +kernel), List.mem_of_getElem? (i := 522) (by decide +kernel)⟩
def lw_privs_1 : List (MethodName × Nat) := [(⟨"CrankedExcuse$Text", "readItem", "(LCrankedExcuse$Plan;)Z"⟩, 4), (⟨"CrankedExcuse$Text", "letterAt", "(I)I"⟩, 4), (⟨"CrankedExcuse$Text", "readNumber", "()I"⟩, 4), (⟨"CrankedExcuse$Text", "figureAt", "(I)I"⟩, 4), (⟨"CrankedExcuse$Plan", "addWheel", "(III)Z"⟩, 12), (⟨"CrankedExcuse$Plan", "addClash", "(IIII)Z"⟩, 12), (⟨"CrankedExcuse$Plan", "isToothTold", "(II)Z"⟩, 12), (⟨"CrankedExcuse$Plan", "addPerson", "(I)Z"⟩, 12), (⟨"CrankedExcuse$Plan", "setWorth", "(II)Z"⟩, 12), (⟨"CrankedExcuse", "isWheel", "(I)Z"⟩, 9), (⟨"CrankedExcuse", "isPerson", "(I)Z"⟩, 9), (⟨"CrankedExcuse", "isHeard", "(I)Z"⟩, 9), (⟨"CrankedExcuse", "isExcuse", "(I)Z"⟩, 9), (⟨"CrankedExcuse$Shelf", "placeAt", "(I)LCrankedExcuse$Box;"⟩, 3), (⟨"CrankedExcuse$Box", "isSeenThrough", "(LCrankedExcuse$Plan;III)Z"⟩, 11), (⟨"CrankedExcuse$Box", "dropFirst", "()V"⟩, 11)]
theorem lw_r1 : ∀ q ∈ lw_privs_1, lw_okq q := List.forall_mem_cons.mpr ⟨lw_p0, List.forall_mem_cons.mpr ⟨lw_p1, List.forall_mem_cons.mpr ⟨lw_p2, List.forall_mem_cons.mpr ⟨lw_p3, List.forall_mem_cons.mpr ⟨lw_p4, List.forall_mem_cons.mpr ⟨lw_p5, List.forall_mem_cons.mpr ⟨lw_p6, List.forall_mem_cons.mpr ⟨lw_p7, List.forall_mem_cons.mpr ⟨lw_p8, List.forall_mem_cons.mpr ⟨lw_p9, List.forall_mem_cons.mpr ⟨lw_p10, List.forall_mem_cons.mpr ⟨lw_p11, List.forall_mem_cons.mpr ⟨lw_p12, List.forall_mem_cons.mpr ⟨lw_p13, List.forall_mem_cons.mpr ⟨lw_p14, List.forall_mem_cons.mpr ⟨lw_p15, fun _ h => absurd h List.not_mem_nil⟩⟩⟩⟩⟩⟩⟩⟩⟩⟩⟩⟩⟩⟩⟩⟩
theorem lw_p16 : lw_okq (⟨"CrankedExcuse", "isTooth", "(II)Z"⟩, 9) := ⟨⟨by decide +kernel, by decide +kernel⟩, List.mem_of_getElem? (i := 17) (by decide +kernel), List.mem_of_getElem? (i := 533) (by decide +kernel), List.mem_of_getElem? (i := 534) (by decide +kernel)⟩
theorem lw_p17 : lw_okq (⟨"CrankedExcuse$Ear", "haversOf", "(I)I"⟩, 4) := ⟨⟨by decide +kernel, by decide +kernel⟩, List.mem_of_getElem? (i := 141) (by decide +kernel), List.mem_of_getElem? (i := 588) (by decide +kernel), List.mem_of_getElem? (i := 589) (by decide +kernel)⟩
theorem lw_p18 : lw_okq (⟨"CrankedExcuse$Ear", "allHeard", "()I"⟩, 4) := ⟨⟨by decide +kernel, by decide +kernel⟩, List.mem_of_getElem? (i := 141) (by decide +kernel), List.mem_of_getElem? (i := 596) (by decide +kernel), List.mem_of_getElem? (i := 597) (by decide +kernel)⟩
theorem lw_p19 : lw_okq (⟨"CrankedExcuse$Ear", "rivalsOf", "(I)I"⟩, 4) := ⟨⟨by decide +kernel, by decide +kernel⟩, List.mem_of_getElem? (i := 141) (by decide +kernel), List.mem_of_getElem? (i := 618) (by decide +kernel), List.mem_of_getElem? (i := 619) (by decide +kernel)⟩
theorem lw_p20 : lw_okq (⟨"CrankedExcuse$Sightings", "isSo", "(LCrankedExcuse$Plan;II)Z"⟩, 4) := ⟨⟨by decide +kernel, by decide +kernel⟩, List.mem_of_getElem? (i := 47) (by decide +kernel), List.mem_of_getElem? (i := 666) (by decide +kernel), List.mem_of_getElem? (i := 667) (by decide +kernel)⟩
theorem lw_p21 : lw_okq (⟨"CrankedExcuse", "worthBehind", "(I)I"⟩, 9) := ⟨⟨by decide +kernel, by decide +kernel⟩, List.mem_of_getElem? (i := 17) (by decide +kernel), List.mem_of_getElem? (i := 686) (by decide +kernel), List.mem_of_getElem? (i := 687) (by decide +kernel)⟩
theorem lw_p22 : lw_okq (⟨"CrankedExcuseModel", "clean", "()V"⟩, 19) := ⟨⟨by decide +kernel, by decide +kernel⟩, List.mem_of_getElem? (i := 718) (by decide +kernel), List.mem_of_getElem? (i := 724) (by decide +kernel), List.mem_of_getElem? (i := 725) (by decide +kernel)⟩
theorem lw_p23 : lw_okq (⟨"CrankedExcuseModel", "comes", "(III)V"⟩, 19) := ⟨⟨by decide +kernel, by decide +kernel⟩, List.mem_of_getElem? (i := 718) (by decide +kernel), List.mem_of_getElem? (i := 728) (by decide +kernel), List.mem_of_getElem? (i := 729) (by decide +kernel)⟩
theorem lw_p24 : lw_okq (⟨"CrankedExcuseModel", "pair", "(IIII)V"⟩, 19) := ⟨⟨by decide +kernel, by decide +kernel⟩, List.mem_of_getElem? (i := 718) (by decide +kernel), List.mem_of_getElem? (i := 732) (by decide +kernel), List.mem_of_getElem? (i := 733) (by decide +kernel)⟩
theorem lw_p25 : lw_okq (⟨"CrankedExcuseModel", "person", "(I)V"⟩, 19) := ⟨⟨by decide +kernel, by decide +kernel⟩, List.mem_of_getElem? (i := 718) (by decide +kernel), List.mem_of_getElem? (i := 736) (by decide +kernel), List.mem_of_getElem? (i := 737) (by decide +kernel)⟩
theorem lw_p26 : lw_okq (⟨"CrankedExcuseModel", "begins", "()V"⟩, 19) := ⟨⟨by decide +kernel, by decide +kernel⟩, List.mem_of_getElem? (i := 718) (by decide +kernel), List.mem_of_getElem? (i := 740) (by decide +kernel), List.mem_of_getElem? (i := 741) (by decide +kernel)⟩
theorem lw_p27 : lw_okq (⟨"CrankedExcuseModel", "takesItem", "()Z"⟩, 19) := ⟨⟨by decide +kernel, by decide +kernel⟩, List.mem_of_getElem? (i := 718) (by decide +kernel), List.mem_of_getElem? (i := 819) (by decide +kernel), List.mem_of_getElem? (i := 820) (by decide +kernel)⟩
theorem lw_p28 : lw_okq (⟨"CrankedExcuseModel", "takesWheel", "()Z"⟩, 19) := ⟨⟨by decide +kernel, by decide +kernel⟩, List.mem_of_getElem? (i := 718) (by decide +kernel), List.mem_of_getElem? (i := 823) (by decide +kernel), List.mem_of_getElem? (i := 824) (by decide +kernel)⟩
theorem lw_p29 : lw_okq (⟨"CrankedExcuseModel", "takes", "(I)Z"⟩, 19) := ⟨⟨by decide +kernel, by decide +kernel⟩, List.mem_of_getElem? (i := 718) (by decide +kernel), List.mem_of_getElem? (i := 827) (by decide +kernel), List.mem_of_getElem? (i := 828) (by decide +kernel)⟩
theorem lw_p30 : lw_okq (⟨"CrankedExcuseModel", "takesPair", "()Z"⟩, 19) := ⟨⟨by decide +kernel, by decide +kernel⟩, List.mem_of_getElem? (i := 718) (by decide +kernel), List.mem_of_getElem? (i := 835) (by decide +kernel), List.mem_of_getElem? (i := 836) (by decide +kernel)⟩
theorem lw_p31 : lw_okq (⟨"CrankedExcuseModel", "isToldTooth", "(II)Z"⟩, 19) := ⟨⟨by decide +kernel, by decide +kernel⟩, List.mem_of_getElem? (i := 718) (by decide +kernel), List.mem_of_getElem? (i := 839) (by decide +kernel), List.mem_of_getElem? (i := 840) (by decide +kernel)⟩
def lw_privs_2 : List (MethodName × Nat) := [(⟨"CrankedExcuse", "isTooth", "(II)Z"⟩, 9), (⟨"CrankedExcuse$Ear", "haversOf", "(I)I"⟩, 4), (⟨"CrankedExcuse$Ear", "allHeard", "()I"⟩, 4), (⟨"CrankedExcuse$Ear", "rivalsOf", "(I)I"⟩, 4), (⟨"CrankedExcuse$Sightings", "isSo", "(LCrankedExcuse$Plan;II)Z"⟩, 4), (⟨"CrankedExcuse", "worthBehind", "(I)I"⟩, 9), (⟨"CrankedExcuseModel", "clean", "()V"⟩, 19), (⟨"CrankedExcuseModel", "comes", "(III)V"⟩, 19), (⟨"CrankedExcuseModel", "pair", "(IIII)V"⟩, 19), (⟨"CrankedExcuseModel", "person", "(I)V"⟩, 19), (⟨"CrankedExcuseModel", "begins", "()V"⟩, 19), (⟨"CrankedExcuseModel", "takesItem", "()Z"⟩, 19), (⟨"CrankedExcuseModel", "takesWheel", "()Z"⟩, 19), (⟨"CrankedExcuseModel", "takes", "(I)Z"⟩, 19), (⟨"CrankedExcuseModel", "takesPair", "()Z"⟩, 19), (⟨"CrankedExcuseModel", "isToldTooth", "(II)Z"⟩, 19)]
theorem lw_r2 : ∀ q ∈ lw_privs_2, lw_okq q := List.forall_mem_cons.mpr ⟨lw_p16, List.forall_mem_cons.mpr ⟨lw_p17, List.forall_mem_cons.mpr ⟨lw_p18, List.forall_mem_cons.mpr ⟨lw_p19, List.forall_mem_cons.mpr ⟨lw_p20, List.forall_mem_cons.mpr ⟨lw_p21, List.forall_mem_cons.mpr ⟨lw_p22, List.forall_mem_cons.mpr ⟨lw_p23, List.forall_mem_cons.mpr ⟨lw_p24, List.forall_mem_cons.mpr ⟨lw_p25, List.forall_mem_cons.mpr ⟨lw_p26, List.forall_mem_cons.mpr ⟨lw_p27, List.forall_mem_cons.mpr ⟨lw_p28, List.forall_mem_cons.mpr ⟨lw_p29, List.forall_mem_cons.mpr ⟨lw_p30, List.forall_mem_cons.mpr ⟨lw_p31, fun _ h => absurd h List.not_mem_nil⟩⟩⟩⟩⟩⟩⟩⟩⟩⟩⟩⟩⟩⟩⟩⟩
theorem lw_p32 : lw_okq (⟨"CrankedExcuseModel", "takesPerson", "()Z"⟩, 19) := ⟨⟨by decide +kernel, by decide +kernel⟩, List.mem_of_getElem? (i := 718) (by decide +kernel), List.mem_of_getElem? (i := 843) (by decide +kernel), List.mem_of_getElem? (i := 844) (by decide +kernel)⟩
theorem lw_p33 : lw_okq (⟨"CrankedExcuseModel", "takesWear", "()Z"⟩, 19) := ⟨⟨by decide +kernel, by decide +kernel⟩, List.mem_of_getElem? (i := 718) (by decide +kernel), List.mem_of_getElem? (i := 847) (by decide +kernel), List.mem_of_getElem? (i := 848) (by decide +kernel)⟩
theorem lw_p34 : lw_okq (⟨"CrankedExcuseModel", "isWheel", "(I)Z"⟩, 19) := ⟨⟨by decide +kernel, by decide +kernel⟩, List.mem_of_getElem? (i := 718) (by decide +kernel), List.mem_of_getElem? (i := 860) (by decide +kernel), List.mem_of_getElem? (i := 861) (by decide +kernel)⟩
theorem lw_p35 : lw_okq (⟨"CrankedExcuseModel", "isPerson", "(I)Z"⟩, 19) := ⟨⟨by decide +kernel, by decide +kernel⟩, List.mem_of_getElem? (i := 718) (by decide +kernel), List.mem_of_getElem? (i := 869) (by decide +kernel), List.mem_of_getElem? (i := 870) (by decide +kernel)⟩
theorem lw_p36 : lw_okq (⟨"CrankedExcuseModel", "talksOf", "(I)I"⟩, 19) := ⟨⟨by decide +kernel, by decide +kernel⟩, List.mem_of_getElem? (i := 718) (by decide +kernel), List.mem_of_getElem? (i := 873) (by decide +kernel), List.mem_of_getElem? (i := 874) (by decide +kernel)⟩
theorem lw_p37 : lw_okq (⟨"CrankedExcuseModel", "isHeard", "(I)Z"⟩, 19) := ⟨⟨by decide +kernel, by decide +kernel⟩, List.mem_of_getElem? (i := 718) (by decide +kernel), List.mem_of_getElem? (i := 884) (by decide +kernel), List.mem_of_getElem? (i := 885) (by decide +kernel)⟩
theorem lw_p38 : lw_okq (⟨"CrankedExcuseModel", "isExcuse", "(I)Z"⟩, 19) := ⟨⟨by decide +kernel, by decide +kernel⟩, List.mem_of_getElem? (i := 718) (by decide +kernel), List.mem_of_getElem? (i := 893) (by decide +kernel), List.mem_of_getElem? (i := 894) (by decide +kernel)⟩
theorem lw_p39 : lw_okq (⟨"CrankedExcuseModel", "excuses", "()I"⟩, 19) := ⟨⟨by decide +kernel, by decide +kernel⟩, List.mem_of_getElem? (i := 718) (by decide +kernel), List.mem_of_getElem? (i := 897) (by decide +kernel), List.mem_of_getElem? (i := 898) (by decide +kernel)⟩
theorem lw_p40 : lw_okq (⟨"CrankedExcuseModel", "hasSense", "([II)Z"⟩, 19) := ⟨⟨by decide +kernel, by decide +kernel⟩, List.mem_of_getElem? (i := 718) (by decide +kernel), List.mem_of_getElem? (i := 901) (by decide +kernel), List.mem_of_getElem? (i := 902) (by decide +kernel)⟩
theorem lw_p41 : lw_okq (⟨"CrankedExcuseModel", "toothOf", "(II)I"⟩, 19) := ⟨⟨by decide +kernel, by decide +kernel⟩, List.mem_of_getElem? (i := 718) (by decide +kernel), List.mem_of_getElem? (i := 905) (by decide +kernel), List.mem_of_getElem? (i := 906) (by decide +kernel)⟩
theorem lw_p42 : lw_okq (⟨"CrankedExcuseModel", "isStale", "([III)Z"⟩, 19) := ⟨⟨by decide +kernel, by decide +kernel⟩, List.mem_of_getElem? (i := 718) (by decide +kernel), List.mem_of_getElem? (i := 913) (by decide +kernel), List.mem_of_getElem? (i := 914) (by decide +kernel)⟩
theorem lw_p43 : lw_okq (⟨"CrankedExcuseModel", "remember", "()V"⟩, 19) := ⟨⟨by decide +kernel, by decide +kernel⟩, List.mem_of_getElem? (i := 718) (by decide +kernel), List.mem_of_getElem? (i := 921) (by decide +kernel), List.mem_of_getElem? (i := 922) (by decide +kernel)⟩
theorem lw_p44 : lw_okq (⟨"CrankedExcuseModel", "turns", "([I)V"⟩, 19) := ⟨⟨by decide +kernel, by decide +kernel⟩, List.mem_of_getElem? (i := 718) (by decide +kernel), List.mem_of_getElem? (i := 928) (by decide +kernel), List.mem_of_getElem? (i := 929) (by decide +kernel)⟩
theorem lw_p45 : lw_okq (⟨"CrankedExcuseModel", "upOn", "([I)I"⟩, 19) := ⟨⟨by decide +kernel, by decide +kernel⟩, List.mem_of_getElem? (i := 718) (by decide +kernel), List.mem_of_getElem? (i := 932) (by decide +kernel), List.mem_of_getElem? (i := 933) (by decide +kernel)⟩
theorem lw_p46 : lw_okq (⟨"CrankedExcuseModel", "gives", "([III)Z"⟩, 19) := ⟨⟨by decide +kernel, by decide +kernel⟩, List.mem_of_getElem? (i := 718) (by decide +kernel), List.mem_of_getElem? (i := 940) (by decide +kernel), List.mem_of_getElem? (i := 941) (by decide +kernel)⟩
theorem lw_p47 : lw_okq (⟨"CrankedExcuseModel", "isSeen", "([IIII)Z"⟩, 19) := ⟨⟨by decide +kernel, by decide +kernel⟩, List.mem_of_getElem? (i := 718) (by decide +kernel), List.mem_of_getElem? (i := 944) (by decide +kernel), List.mem_of_getElem? (i := 945) (by decide +kernel)⟩
def lw_privs_3 : List (MethodName × Nat) := [(⟨"CrankedExcuseModel", "takesPerson", "()Z"⟩, 19), (⟨"CrankedExcuseModel", "takesWear", "()Z"⟩, 19), (⟨"CrankedExcuseModel", "isWheel", "(I)Z"⟩, 19), (⟨"CrankedExcuseModel", "isPerson", "(I)Z"⟩, 19), (⟨"CrankedExcuseModel", "talksOf", "(I)I"⟩, 19), (⟨"CrankedExcuseModel", "isHeard", "(I)Z"⟩, 19), (⟨"CrankedExcuseModel", "isExcuse", "(I)Z"⟩, 19), (⟨"CrankedExcuseModel", "excuses", "()I"⟩, 19), (⟨"CrankedExcuseModel", "hasSense", "([II)Z"⟩, 19), (⟨"CrankedExcuseModel", "toothOf", "(II)I"⟩, 19), (⟨"CrankedExcuseModel", "isStale", "([III)Z"⟩, 19), (⟨"CrankedExcuseModel", "remember", "()V"⟩, 19), (⟨"CrankedExcuseModel", "turns", "([I)V"⟩, 19), (⟨"CrankedExcuseModel", "upOn", "([I)I"⟩, 19), (⟨"CrankedExcuseModel", "gives", "([III)Z"⟩, 19), (⟨"CrankedExcuseModel", "isSeen", "([IIII)Z"⟩, 19)]
theorem lw_r3 : ∀ q ∈ lw_privs_3, lw_okq q := List.forall_mem_cons.mpr ⟨lw_p32, List.forall_mem_cons.mpr ⟨lw_p33, List.forall_mem_cons.mpr ⟨lw_p34, List.forall_mem_cons.mpr ⟨lw_p35, List.forall_mem_cons.mpr ⟨lw_p36, List.forall_mem_cons.mpr ⟨lw_p37, List.forall_mem_cons.mpr ⟨lw_p38, List.forall_mem_cons.mpr ⟨lw_p39, List.forall_mem_cons.mpr ⟨lw_p40, List.forall_mem_cons.mpr ⟨lw_p41, List.forall_mem_cons.mpr ⟨lw_p42, List.forall_mem_cons.mpr ⟨lw_p43, List.forall_mem_cons.mpr ⟨lw_p44, List.forall_mem_cons.mpr ⟨lw_p45, List.forall_mem_cons.mpr ⟨lw_p46, List.forall_mem_cons.mpr ⟨lw_p47, fun _ h => absurd h List.not_mem_nil⟩⟩⟩⟩⟩⟩⟩⟩⟩⟩⟩⟩⟩⟩⟩⟩
theorem lw_p48 : lw_okq (⟨"CrankedExcuseModel", "isTooth", "(II)Z"⟩, 19) := ⟨⟨by decide +kernel, by decide +kernel⟩, List.mem_of_getElem? (i := 718) (by decide +kernel), List.mem_of_getElem? (i := 959) (by decide +kernel), List.mem_of_getElem? (i := 960) (by decide +kernel)⟩
theorem lw_p49 : lw_okq (⟨"CrankedExcuseModel", "layAside", "()V"⟩, 19) := ⟨⟨by decide +kernel, by decide +kernel⟩, List.mem_of_getElem? (i := 718) (by decide +kernel), List.mem_of_getElem? (i := 982) (by decide +kernel), List.mem_of_getElem? (i := 983) (by decide +kernel)⟩
theorem lw_p50 : lw_okq (⟨"CrankedExcuseModel", "inRound", "(I)I"⟩, 19) := ⟨⟨by decide +kernel, by decide +kernel⟩, List.mem_of_getElem? (i := 718) (by decide +kernel), List.mem_of_getElem? (i := 997) (by decide +kernel), List.mem_of_getElem? (i := 998) (by decide +kernel)⟩
theorem lw_p51 : lw_okq (⟨"CrankedExcuseModel", "heardBy", "(I)I"⟩, 19) := ⟨⟨by decide +kernel, by decide +kernel⟩, List.mem_of_getElem? (i := 718) (by decide +kernel), List.mem_of_getElem? (i := 1012) (by decide +kernel), List.mem_of_getElem? (i := 1013) (by decide +kernel)⟩
theorem lw_p52 : lw_okq (⟨"CrankedExcuseModel", "layTeeth", "()V"⟩, 19) := ⟨⟨by decide +kernel, by decide +kernel⟩, List.mem_of_getElem? (i := 718) (by decide +kernel), List.mem_of_getElem? (i := 1016) (by decide +kernel), List.mem_of_getElem? (i := 1017) (by decide +kernel)⟩
theorem lw_p53 : lw_okq (⟨"CrankedExcuseModel", "leansOn", "(II)Z"⟩, 19) := ⟨⟨by decide +kernel, by decide +kernel⟩, List.mem_of_getElem? (i := 718) (by decide +kernel), List.mem_of_getElem? (i := 1020) (by decide +kernel), List.mem_of_getElem? (i := 1021) (by decide +kernel)⟩
theorem lw_p54 : lw_okq (⟨"CrankedExcuseModel", "clash", "(II)Z"⟩, 19) := ⟨⟨by decide +kernel, by decide +kernel⟩, List.mem_of_getElem? (i := 718) (by decide +kernel), List.mem_of_getElem? (i := 1028) (by decide +kernel), List.mem_of_getElem? (i := 1029) (by decide +kernel)⟩
theorem lw_p55 : lw_okq (⟨"CrankedExcuseModel", "gearsOf", "(I)I"⟩, 19) := ⟨⟨by decide +kernel, by decide +kernel⟩, List.mem_of_getElem? (i := 718) (by decide +kernel), List.mem_of_getElem? (i := 1054) (by decide +kernel), List.mem_of_getElem? (i := 1055) (by decide +kernel)⟩
theorem lw_p56 : lw_okq (⟨"CrankedExcuseModel", "behind", "(III)I"⟩, 19) := ⟨⟨by decide +kernel, by decide +kernel⟩, List.mem_of_getElem? (i := 718) (by decide +kernel), List.mem_of_getElem? (i := 1058) (by decide +kernel), List.mem_of_getElem? (i := 1059) (by decide +kernel)⟩
theorem lw_p57 : lw_okq (⟨"CrankedExcuseModel", "worst", "(III)I"⟩, 19) := ⟨⟨by decide +kernel, by decide +kernel⟩, List.mem_of_getElem? (i := 718) (by decide +kernel), List.mem_of_getElem? (i := 1067) (by decide +kernel), List.mem_of_getElem? (i := 1068) (by decide +kernel)⟩
def lw_privs_4 : List (MethodName × Nat) := [(⟨"CrankedExcuseModel", "isTooth", "(II)Z"⟩, 19), (⟨"CrankedExcuseModel", "layAside", "()V"⟩, 19), (⟨"CrankedExcuseModel", "inRound", "(I)I"⟩, 19), (⟨"CrankedExcuseModel", "heardBy", "(I)I"⟩, 19), (⟨"CrankedExcuseModel", "layTeeth", "()V"⟩, 19), (⟨"CrankedExcuseModel", "leansOn", "(II)Z"⟩, 19), (⟨"CrankedExcuseModel", "clash", "(II)Z"⟩, 19), (⟨"CrankedExcuseModel", "gearsOf", "(I)I"⟩, 19), (⟨"CrankedExcuseModel", "behind", "(III)I"⟩, 19), (⟨"CrankedExcuseModel", "worst", "(III)I"⟩, 19)]
theorem lw_r4 : ∀ q ∈ lw_privs_4, lw_okq q := List.forall_mem_cons.mpr ⟨lw_p48, List.forall_mem_cons.mpr ⟨lw_p49, List.forall_mem_cons.mpr ⟨lw_p50, List.forall_mem_cons.mpr ⟨lw_p51, List.forall_mem_cons.mpr ⟨lw_p52, List.forall_mem_cons.mpr ⟨lw_p53, List.forall_mem_cons.mpr ⟨lw_p54, List.forall_mem_cons.mpr ⟨lw_p55, List.forall_mem_cons.mpr ⟨lw_p56, List.forall_mem_cons.mpr ⟨lw_p57, fun _ h => absurd h List.not_mem_nil⟩⟩⟩⟩⟩⟩⟩⟩⟩⟩
def lw_privs : List (MethodName × Nat) := lw_privs_1 ++ (lw_privs_2 ++ (lw_privs_3 ++ (lw_privs_4)))
def lw_tbl : List Cond := k2_sels lw_privs ++ tables_1
theorem lw_privs_ok : ∀ q ∈ lw_privs, lw_okq q := by
  show ∀ q ∈ lw_privs_1 ++ (lw_privs_2 ++ (lw_privs_3 ++ (lw_privs_4))), lw_okq q
  exact List.forall_mem_append.mpr ⟨lw_r1, List.forall_mem_append.mpr ⟨lw_r2, List.forall_mem_append.mpr ⟨lw_r3, lw_r4⟩⟩⟩
def RX0 : String := "CrankedExcuse$Box"
def TX0 : u_T := fun k => match k with
  | 0 => ("CrankedExcuse$Box", "up", "[I", true)
  | 1 => ("CrankedExcuse$Box", "steps", "[I", true)
  | 2 => ("CrankedExcuse$Box", "excuses", "[I", true)
  | 3 => ("CrankedExcuse$Box", "tellers", "[I", true)
  | 4 => ("CrankedExcuse$Box", "hearers", "[I", true)
  | 5 => ("CrankedExcuse$Box", "days", "[I", true)
  | 6 => ("CrankedExcuse$Box", "seen", "[I", true)
  | 7 => ("CrankedExcuse$Box", "filed", "I", false)
  | 8 => ("CrankedExcuse$Box", "heard", "I", false)
  | 9 => ("CrankedExcuse$Box", "today", "I", false)
  | _ => ("CrankedExcuse$Box", "turns", "I", false)
def tyX0 : Nat → FieldType := fun k => match k with
  | 0 => .array .int
  | 1 => .array .int
  | 2 => .array .int
  | 3 => .array .int
  | 4 => .array .int
  | 5 => .array .int
  | 6 => .array .int
  | 7 => .int
  | 8 => .int
  | 9 => .int
  | _ => .int
abbrev wsX00 : List Cond := u_ws RX0 TX0 11
theorem nmX0 : ∀ a, a < 11 → ∀ b, b < 11 → a ≠ b → (TX0 a).2.1 ≠ (TX0 b).2.1 := by decide +kernel
theorem tyX0_ok : ∀ k, k < 11 → parseFieldDescriptor (TX0 k).2.2.1 = some (tyX0 k) := by decide +kernel
abbrev cX0_init : ByteArray := prog_2_method_1_code
def yX0_init : MethodName := ⟨RX0, "<init>", "()V"⟩
abbrev cX0_begin : ByteArray := prog_2_method_2_code
def yX0_begin : MethodName := ⟨RX0, "begin", "(LCrankedExcuse$Plan;)V"⟩
abbrev cX0_copy : ByteArray := prog_2_method_3_code
def yX0_copy : MethodName := ⟨RX0, "copy", "(LCrankedExcuse$Box;)V"⟩
abbrev cX0_toothBehind : ByteArray := prog_2_method_4_code
def yX0_toothBehind : MethodName := ⟨RX0, "toothBehind", "(LCrankedExcuse$Plan;II)I"⟩
abbrev cX0_excuseBehind : ByteArray := prog_2_method_5_code
def yX0_excuseBehind : MethodName := ⟨RX0, "excuseBehind", "(LCrankedExcuse$Plan;I)I"⟩
abbrev cX0_turnBy : ByteArray := prog_2_method_6_code
def yX0_turnBy : MethodName := ⟨RX0, "turnBy", "(LCrankedExcuse$Plan;I)V"⟩
abbrev cX0_turnsInRound : ByteArray := prog_2_method_7_code
def yX0_turnsInRound : MethodName := ⟨RX0, "turnsInRound", "(LCrankedExcuse$Plan;)I"⟩
abbrev cX0_makesSense : ByteArray := prog_2_method_8_code
def yX0_makesSense : MethodName := ⟨RX0, "makesSense", "(LCrankedExcuse$Plan;I)Z"⟩
abbrev cX0_isUsed : ByteArray := prog_2_method_9_code
def yX0_isUsed : MethodName := ⟨RX0, "isUsed", "(II)Z"⟩
abbrev cX0_isFresh : ByteArray := prog_2_method_10_code
def yX0_isFresh : MethodName := ⟨RX0, "isFresh", "(LCrankedExcuse$Plan;II)Z"⟩
abbrev cX0_turnsTillFresh : ByteArray := prog_2_method_11_code
def yX0_turnsTillFresh : MethodName := ⟨RX0, "turnsTillFresh", "(LCrankedExcuse$Plan;I)I"⟩
abbrev cX0_tell : ByteArray := prog_2_method_12_code
def yX0_tell : MethodName := ⟨RX0, "tell", "(LCrankedExcuse$Plan;II)I"⟩
abbrev cX0_isSeenThrough : ByteArray := prog_2_method_13_code
def yX0_isSeenThrough : MethodName := ⟨RX0, "isSeenThrough", "(LCrankedExcuse$Plan;III)Z"⟩
abbrev cX0_dropFirst : ByteArray := prog_2_method_14_code
def yX0_dropFirst : MethodName := ⟨RX0, "dropFirst", "()V"⟩
abbrev cX0_seenThrough : ByteArray := prog_2_method_15_code
def yX0_seenThrough : MethodName := ⟨RX0, "seenThrough", "()I"⟩
def RX1 : String := "CrankedExcuse$Ear"
def TX1 : u_T := fun k => match k with
  | 0 => ("CrankedExcuse$Ear", "teeth", "[I", true)
  | 1 => ("CrankedExcuse$Ear", "covers", "[I", true)
  | 2 => ("CrankedExcuse$Ear", "rivals", "[I", true)
  | _ => ("CrankedExcuse$Ear", "count", "I", false)
def tyX1 : Nat → FieldType := fun k => match k with
  | 0 => .array .int
  | 1 => .array .int
  | 2 => .array .int
  | _ => .int
abbrev wsX10 : List Cond := u_ws RX1 TX1 4
theorem nmX1 : ∀ a, a < 4 → ∀ b, b < 4 → a ≠ b → (TX1 a).2.1 ≠ (TX1 b).2.1 := by decide +kernel
theorem tyX1_ok : ∀ k, k < 4 → parseFieldDescriptor (TX1 k).2.2.1 = some (tyX1 k) := by decide +kernel
abbrev cX1_init : ByteArray := prog_3_method_1_code
def yX1_init : MethodName := ⟨RX1, "<init>", "()V"⟩
abbrev cX1_listen : ByteArray := prog_3_method_2_code
def yX1_listen : MethodName := ⟨RX1, "listen", "(LCrankedExcuse$Plan;LCrankedExcuse$Box;I)V"⟩
abbrev cX1_haversOf : ByteArray := prog_3_method_3_code
def yX1_haversOf : MethodName := ⟨RX1, "haversOf", "(I)I"⟩
abbrev cX1_allHeard : ByteArray := prog_3_method_4_code
def yX1_allHeard : MethodName := ⟨RX1, "allHeard", "()I"⟩
abbrev cX1_fewestTeeth : ByteArray := prog_3_method_5_code
def yX1_fewestTeeth : MethodName := ⟨RX1, "fewestTeeth", "()I"⟩
abbrev cX1_slotOfFewest : ByteArray := prog_3_method_6_code
def yX1_slotOfFewest : MethodName := ⟨RX1, "slotOfFewest", "(II)I"⟩
abbrev cX1_canCover : ByteArray := prog_3_method_7_code
def yX1_canCover : MethodName := ⟨RX1, "canCover", "(LCrankedExcuse$Ear;III)Z"⟩
abbrev cX1_mostTogether : ByteArray := prog_3_method_8_code
def yX1_mostTogether : MethodName := ⟨RX1, "mostTogether", "()I"⟩
abbrev cX1_rivalsOf : ByteArray := prog_3_method_9_code
def yX1_rivalsOf : MethodName := ⟨RX1, "rivalsOf", "(I)I"⟩
abbrev cX1_mostOf : ByteArray := prog_3_method_10_code
def yX1_mostOf : MethodName := ⟨RX1, "mostOf", "([III)I"⟩
abbrev cX1_sharersOfFirstWheel : ByteArray := prog_3_method_11_code
def yX1_sharersOfFirstWheel : MethodName := ⟨RX1, "sharersOfFirstWheel", "()I"⟩
def RX2 : String := "CrankedExcuse$Plan"
def TX2 : u_T := fun k => match k with
  | 0 => ("CrankedExcuse$Plan", "teeth", "[I", true)
  | 1 => ("CrankedExcuse$Plan", "steps", "[I", true)
  | 2 => ("CrankedExcuse$Plan", "up", "[I", true)
  | 3 => ("CrankedExcuse$Plan", "strides", "[I", true)
  | 4 => ("CrankedExcuse$Plan", "clashing", "[I", true)
  | 5 => ("CrankedExcuse$Plan", "told", "[I", true)
  | 6 => ("CrankedExcuse$Plan", "wheels", "I", false)
  | 7 => ("CrankedExcuse$Plan", "clashes", "I", false)
  | 8 => ("CrankedExcuse$Plan", "persons", "I", false)
  | 9 => ("CrankedExcuse$Plan", "size", "I", false)
  | 10 => ("CrankedExcuse$Plan", "wear", "I", false)
  | _ => ("CrankedExcuse$Plan", "worth", "I", false)
def tyX2 : Nat → FieldType := fun k => match k with
  | 0 => .array .int
  | 1 => .array .int
  | 2 => .array .int
  | 3 => .array .int
  | 4 => .array .int
  | 5 => .array .int
  | 6 => .int
  | 7 => .int
  | 8 => .int
  | 9 => .int
  | 10 => .int
  | _ => .int
abbrev wsX20 : List Cond := u_ws RX2 TX2 12
theorem nmX2 : ∀ a, a < 12 → ∀ b, b < 12 → a ≠ b → (TX2 a).2.1 ≠ (TX2 b).2.1 := by decide +kernel
theorem tyX2_ok : ∀ k, k < 12 → parseFieldDescriptor (TX2 k).2.2.1 = some (tyX2 k) := by decide +kernel
abbrev cX2_init : ByteArray := prog_4_method_1_code
def yX2_init : MethodName := ⟨RX2, "<init>", "()V"⟩
abbrev cX2_empty : ByteArray := prog_4_method_2_code
def yX2_empty : MethodName := ⟨RX2, "empty", "()V"⟩
abbrev cX2_take : ByteArray := prog_4_method_3_code
def yX2_take : MethodName := ⟨RX2, "take", "(I[I)Z"⟩
abbrev cX2_addWheel : ByteArray := prog_4_method_4_code
def yX2_addWheel : MethodName := ⟨RX2, "addWheel", "(III)Z"⟩
abbrev cX2_addClash : ByteArray := prog_4_method_5_code
def yX2_addClash : MethodName := ⟨RX2, "addClash", "(IIII)Z"⟩
abbrev cX2_isToothTold : ByteArray := prog_4_method_6_code
def yX2_isToothTold : MethodName := ⟨RX2, "isToothTold", "(II)Z"⟩
abbrev cX2_addPerson : ByteArray := prog_4_method_7_code
def yX2_addPerson : MethodName := ⟨RX2, "addPerson", "(I)Z"⟩
abbrev cX2_setWorth : ByteArray := prog_4_method_8_code
def yX2_setWorth : MethodName := ⟨RX2, "setWorth", "(II)Z"⟩
abbrev cX2_toothOf : ByteArray := prog_4_method_9_code
def yX2_toothOf : MethodName := ⟨RX2, "toothOf", "(II)I"⟩
abbrev cX2_teethOf : ByteArray := prog_4_method_10_code
def yX2_teethOf : MethodName := ⟨RX2, "teethOf", "(I)I"⟩
abbrev cX2_goTogether : ByteArray := prog_4_method_11_code
def yX2_goTogether : MethodName := ⟨RX2, "goTogether", "(I)Z"⟩
abbrev cX2_friendsOf : ByteArray := prog_4_method_12_code
def yX2_friendsOf : MethodName := ⟨RX2, "friendsOf", "(I)I"⟩
abbrev cX2_circleOf : ByteArray := prog_4_method_13_code
def yX2_circleOf : MethodName := ⟨RX2, "circleOf", "(I)I"⟩
def RX3 : String := "CrankedExcuse$Shelf"
def TX3 : u_T := fun k => match k with
  | 0 => ("CrankedExcuse$Shelf", "boxes", "[LCrankedExcuse$Box;", true)
  | 1 => ("CrankedExcuse$Shelf", "next", "I", false)
  | _ => ("CrankedExcuse$Shelf", "count", "I", false)
def tyX3 : Nat → FieldType := fun k => match k with
  | 0 => .array (.object "CrankedExcuse$Box")
  | 1 => .int
  | _ => .int
abbrev wsX30 : List Cond := u_ws RX3 TX3 3
theorem nmX3 : ∀ a, a < 3 → ∀ b, b < 3 → a ≠ b → (TX3 a).2.1 ≠ (TX3 b).2.1 := by decide +kernel
theorem tyX3_ok : ∀ k, k < 3 → parseFieldDescriptor (TX3 k).2.2.1 = some (tyX3 k) := by decide +kernel
abbrev cX3_init : ByteArray := prog_5_method_1_code
def yX3_init : MethodName := ⟨RX3, "<init>", "(I)V"⟩
abbrev cX3_push : ByteArray := prog_5_method_2_code
def yX3_push : MethodName := ⟨RX3, "push", "(LCrankedExcuse$Box;)V"⟩
abbrev cX3_pop : ByteArray := prog_5_method_3_code
def yX3_pop : MethodName := ⟨RX3, "pop", "(LCrankedExcuse$Box;)Z"⟩
abbrev cX3_placeAt : ByteArray := prog_5_method_4_code
def yX3_placeAt : MethodName := ⟨RX3, "placeAt", "(I)LCrankedExcuse$Box;"⟩
def RX4 : String := "CrankedExcuse$Sightings"
def TX4 : u_T := fun k => match k with
  | 0 => ("CrankedExcuse$Sightings", "wheels", "[I", true)
  | 1 => ("CrankedExcuse$Sightings", "turns", "[I", true)
  | 2 => ("CrankedExcuse$Sightings", "teeth", "[I", true)
  | _ => ("CrankedExcuse$Sightings", "shown", "I", false)
def tyX4 : Nat → FieldType := fun k => match k with
  | 0 => .array .int
  | 1 => .array .int
  | 2 => .array .int
  | _ => .int
abbrev wsX40 : List Cond := u_ws RX4 TX4 4
theorem nmX4 : ∀ a, a < 4 → ∀ b, b < 4 → a ≠ b → (TX4 a).2.1 ≠ (TX4 b).2.1 := by decide +kernel
theorem tyX4_ok : ∀ k, k < 4 → parseFieldDescriptor (TX4 k).2.2.1 = some (tyX4 k) := by decide +kernel
abbrev cX4_init : ByteArray := prog_6_method_1_code
def yX4_init : MethodName := ⟨RX4, "<init>", "()V"⟩
abbrev cX4_add : ByteArray := prog_6_method_2_code
def yX4_add : MethodName := ⟨RX4, "add", "(III)Z"⟩
abbrev cX4_stepsOf : ByteArray := prog_6_method_3_code
def yX4_stepsOf : MethodName := ⟨RX4, "stepsOf", "(LCrankedExcuse$Plan;I)I"⟩
abbrev cX4_isSo : ByteArray := prog_6_method_4_code
def yX4_isSo : MethodName := ⟨RX4, "isSo", "(LCrankedExcuse$Plan;II)Z"⟩
abbrev cX4_mostAlike : ByteArray := prog_6_method_5_code
def yX4_mostAlike : MethodName := ⟨RX4, "mostAlike", "(LCrankedExcuse$Plan;III)I"⟩
abbrev cX4_toothBehind : ByteArray := prog_6_method_6_code
def yX4_toothBehind : MethodName := ⟨RX4, "toothBehind", "(LCrankedExcuse$Plan;III)I"⟩
def RX5 : String := "CrankedExcuse$Text"
def TX5 : u_T := fun k => match k with
  | 0 => ("CrankedExcuse$Text", "letters", "[C", true)
  | 1 => ("CrankedExcuse$Text", "numbers", "[I", true)
  | 2 => ("CrankedExcuse$Text", "length", "I", false)
  | _ => ("CrankedExcuse$Text", "place", "I", false)
def tyX5 : Nat → FieldType := fun k => match k with
  | 0 => .array .char
  | 1 => .array .int
  | 2 => .int
  | _ => .int
abbrev wsX50 : List Cond := u_ws RX5 TX5 4
theorem nmX5 : ∀ a, a < 4 → ∀ b, b < 4 → a ≠ b → (TX5 a).2.1 ≠ (TX5 b).2.1 := by decide +kernel
theorem tyX5_ok : ∀ k, k < 4 → parseFieldDescriptor (TX5 k).2.2.1 = some (tyX5 k) := by decide +kernel
abbrev cX5_init : ByteArray := prog_7_method_1_code
def yX5_init : MethodName := ⟨RX5, "<init>", "()V"⟩
abbrev cX5_add : ByteArray := prog_7_method_2_code
def yX5_add : MethodName := ⟨RX5, "add", "(C)Z"⟩
abbrev cX5_empty : ByteArray := prog_7_method_3_code
def yX5_empty : MethodName := ⟨RX5, "empty", "()V"⟩
abbrev cX5_readInto : ByteArray := prog_7_method_4_code
def yX5_readInto : MethodName := ⟨RX5, "readInto", "(LCrankedExcuse$Plan;)I"⟩
abbrev cX5_readItem : ByteArray := prog_7_method_5_code
def yX5_readItem : MethodName := ⟨RX5, "readItem", "(LCrankedExcuse$Plan;)Z"⟩
abbrev cX5_numbersOf : ByteArray := prog_7_method_6_code
def yX5_numbersOf : MethodName := ⟨RX5, "numbersOf", "(I)I"⟩
abbrev cX5_readNumber : ByteArray := prog_7_method_7_code
def yX5_readNumber : MethodName := ⟨RX5, "readNumber", "()I"⟩
abbrev cX5_figureAt : ByteArray := prog_7_method_8_code
def yX5_figureAt : MethodName := ⟨RX5, "figureAt", "(I)I"⟩
abbrev cX5_letterAt : ByteArray := prog_7_method_9_code
def yX5_letterAt : MethodName := ⟨RX5, "letterAt", "(I)I"⟩
def RX6 : String := "CrankedExcuse"
def TX6 : u_T := fun k => match k with
  | 0 => ("CrankedExcuse", "text", "LCrankedExcuse$Text;", true)
  | 1 => ("CrankedExcuse", "sightings", "LCrankedExcuse$Sightings;", true)
  | 2 => ("CrankedExcuse", "undoable", "LCrankedExcuse$Shelf;", true)
  | 3 => ("CrankedExcuse", "kept", "LCrankedExcuse$Shelf;", true)
  | 4 => ("CrankedExcuse", "now", "LCrankedExcuse$Box;", true)
  | 5 => ("CrankedExcuse", "trial", "LCrankedExcuse$Box;", true)
  | 6 => ("CrankedExcuse", "ear", "LCrankedExcuse$Ear;", true)
  | 7 => ("CrankedExcuse", "plan", "LCrankedExcuse$Plan;", false)
  | _ => ("CrankedExcuse", "draft", "LCrankedExcuse$Plan;", false)
def tyX6 : Nat → FieldType := fun k => match k with
  | 0 => .object "CrankedExcuse$Text"
  | 1 => .object "CrankedExcuse$Sightings"
  | 2 => .object "CrankedExcuse$Shelf"
  | 3 => .object "CrankedExcuse$Shelf"
  | 4 => .object "CrankedExcuse$Box"
  | 5 => .object "CrankedExcuse$Box"
  | 6 => .object "CrankedExcuse$Ear"
  | 7 => .object "CrankedExcuse$Plan"
  | _ => .object "CrankedExcuse$Plan"
abbrev wsX60 : List Cond := u_ws RX6 TX6 9
theorem nmX6 : ∀ a, a < 9 → ∀ b, b < 9 → a ≠ b → (TX6 a).2.1 ≠ (TX6 b).2.1 := by decide +kernel
theorem tyX6_ok : ∀ k, k < 9 → parseFieldDescriptor (TX6 k).2.2.1 = some (tyX6 k) := by decide +kernel
abbrev cX6_init : ByteArray := prog_1_method_1_code
def yX6_init : MethodName := ⟨RX6, "<init>", "()V"⟩
abbrev cX6_write : ByteArray := prog_1_method_2_code
def yX6_write : MethodName := ⟨RX6, "write", "(I)I"⟩
abbrev cX6_wipe : ByteArray := prog_1_method_3_code
def yX6_wipe : MethodName := ⟨RX6, "wipe", "()I"⟩
abbrev cX6_fault : ByteArray := prog_1_method_4_code
def yX6_fault : MethodName := ⟨RX6, "fault", "()I"⟩
abbrev cX6_lay : ByteArray := prog_1_method_5_code
def yX6_lay : MethodName := ⟨RX6, "lay", "()I"⟩
abbrev cX6_wheel : ByteArray := prog_1_method_6_code
def yX6_wheel : MethodName := ⟨RX6, "wheel", "(II)I"⟩
abbrev cX6_talks : ByteArray := prog_1_method_7_code
def yX6_talks : MethodName := ⟨RX6, "talks", "(I)I"⟩
abbrev cX6_heard : ByteArray := prog_1_method_8_code
def yX6_heard : MethodName := ⟨RX6, "heard", "(II)I"⟩
abbrev cX6_sense : ByteArray := prog_1_method_9_code
def yX6_sense : MethodName := ⟨RX6, "sense", "(I)I"⟩
abbrev cX6_stale : ByteArray := prog_1_method_10_code
def yX6_stale : MethodName := ⟨RX6, "stale", "(II)I"⟩
abbrev cX6_crank : ByteArray := prog_1_method_11_code
def yX6_crank : MethodName := ⟨RX6, "crank", "()I"⟩
abbrev cX6_give : ByteArray := prog_1_method_12_code
def yX6_give : MethodName := ⟨RX6, "give", "(II)I"⟩
abbrev cX6_day : ByteArray := prog_1_method_13_code
def yX6_day : MethodName := ⟨RX6, "day", "()I"⟩
abbrev cX6_file : ByteArray := prog_1_method_14_code
def yX6_file : MethodName := ⟨RX6, "file", "(II)I"⟩
abbrev cX6_gear : ByteArray := prog_1_method_15_code
def yX6_gear : MethodName := ⟨RX6, "gear", "(II)I"⟩
abbrev cX6_undo : ByteArray := prog_1_method_16_code
def yX6_undo : MethodName := ⟨RX6, "undo", "()I"⟩
abbrev cX6_up : ByteArray := prog_1_method_17_code
def yX6_up : MethodName := ⟨RX6, "up", "(II)I"⟩
abbrev cX6_round : ByteArray := prog_1_method_18_code
def yX6_round : MethodName := ⟨RX6, "round", "()I"⟩
abbrev cX6_sensible : ByteArray := prog_1_method_19_code
def yX6_sensible : MethodName := ⟨RX6, "sensible", "(I)I"⟩
abbrev cX6_longest : ByteArray := prog_1_method_20_code
def yX6_longest : MethodName := ⟨RX6, "longest", "(I)I"⟩
abbrev cX6_teeth : ByteArray := prog_1_method_21_code
def yX6_teeth : MethodName := ⟨RX6, "teeth", "(II)I"⟩
abbrev cX6_together : ByteArray := prog_1_method_22_code
def yX6_together : MethodName := ⟨RX6, "together", "(I)I"⟩
abbrev cX6_owner : ByteArray := prog_1_method_23_code
def yX6_owner : MethodName := ⟨RX6, "owner", "(I)I"⟩
abbrev cX6_caught : ByteArray := prog_1_method_24_code
def yX6_caught : MethodName := ⟨RX6, "caught", "(III)J"⟩
abbrev cX6_shown : ByteArray := prog_1_method_25_code
def yX6_shown : MethodName := ⟨RX6, "shown", "(III)I"⟩
abbrev cX6_forget : ByteArray := prog_1_method_26_code
def yX6_forget : MethodName := ⟨RX6, "forget", "()I"⟩
abbrev cX6_gears : ByteArray := prog_1_method_27_code
def yX6_gears : MethodName := ⟨RX6, "gears", "(I)I"⟩
abbrev cX6_ask : ByteArray := prog_1_method_28_code
def yX6_ask : MethodName := ⟨RX6, "ask", "(II)I"⟩
abbrev cX6_sell : ByteArray := prog_1_method_29_code
def yX6_sell : MethodName := ⟨RX6, "sell", "(I)I"⟩
abbrev cX6_year : ByteArray := prog_1_method_30_code
def yX6_year : MethodName := ⟨RX6, "year", "(III)I"⟩
abbrev cX6_keep : ByteArray := prog_1_method_31_code
def yX6_keep : MethodName := ⟨RX6, "keep", "()I"⟩
abbrev cX6_back : ByteArray := prog_1_method_32_code
def yX6_back : MethodName := ⟨RX6, "back", "()I"⟩
abbrev cX6_count : ByteArray := prog_1_method_33_code
def yX6_count : MethodName := ⟨RX6, "count", "(I)I"⟩
abbrev cX6_isWheel : ByteArray := prog_1_method_34_code
def yX6_isWheel : MethodName := ⟨RX6, "isWheel", "(I)Z"⟩
abbrev cX6_isTooth : ByteArray := prog_1_method_35_code
def yX6_isTooth : MethodName := ⟨RX6, "isTooth", "(II)Z"⟩
abbrev cX6_isPerson : ByteArray := prog_1_method_36_code
def yX6_isPerson : MethodName := ⟨RX6, "isPerson", "(I)Z"⟩
abbrev cX6_isExcuse : ByteArray := prog_1_method_37_code
def yX6_isExcuse : MethodName := ⟨RX6, "isExcuse", "(I)Z"⟩
abbrev cX6_isHeard : ByteArray := prog_1_method_38_code
def yX6_isHeard : MethodName := ⟨RX6, "isHeard", "(I)Z"⟩
abbrev cX6_isPart : ByteArray := prog_1_method_39_code
def yX6_isPart : MethodName := ⟨RX6, "isPart", "(I)Z"⟩
abbrev cX6_worthBehind : ByteArray := prog_1_method_40_code
def yX6_worthBehind : MethodName := ⟨RX6, "worthBehind", "(I)I"⟩
abbrev cX6_drawOf : ByteArray := prog_1_method_41_code
def yX6_drawOf : MethodName := ⟨RX6, "drawOf", "(II)I"⟩
abbrev cX6_at : ByteArray := prog_1_method_42_code
def yX6_at : MethodName := ⟨RX6, "at", "([II)I"⟩
abbrev cX6_put : ByteArray := prog_1_method_43_code
def yX6_put : MethodName := ⟨RX6, "put", "([III)V"⟩
abbrev cX6_copyRow : ByteArray := prog_1_method_44_code
def yX6_copyRow : MethodName := ⟨RX6, "copyRow", "([I[I)V"⟩
abbrev cX6_slotOf : ByteArray := prog_1_method_45_code
def yX6_slotOf : MethodName := ⟨RX6, "slotOf", "(II)I"⟩
abbrev cX6_lowestOf : ByteArray := prog_1_method_46_code
def yX6_lowestOf : MethodName := ⟨RX6, "lowestOf", "(I)I"⟩
abbrev cX6_commonDivisor : ByteArray := prog_1_method_47_code
def yX6_commonDivisor : MethodName := ⟨RX6, "commonDivisor", "(II)I"⟩
def RX7 : String := "CrankedExcuseModel"
def TX7 : u_T := fun k => match k with
  | 0 => ("CrankedExcuseModel", "box", "[I", true)
  | 1 => ("CrankedExcuseModel", "read", "[I", true)
  | 2 => ("CrankedExcuseModel", "now", "[I", true)
  | 3 => ("CrankedExcuseModel", "past", "[I", true)
  | 4 => ("CrankedExcuseModel", "undos", "I", false)
  | 5 => ("CrankedExcuseModel", "kept", "[I", true)
  | 6 => ("CrankedExcuseModel", "keptMany", "I", false)
  | 7 => ("CrankedExcuseModel", "text", "[I", true)
  | 8 => ("CrankedExcuseModel", "size", "I", false)
  | 9 => ("CrankedExcuseModel", "shown", "[I", true)
  | 10 => ("CrankedExcuseModel", "shownMany", "I", false)
  | 11 => ("CrankedExcuseModel", "at", "I", false)
  | 12 => ("CrankedExcuseModel", "numbers", "[I", true)
  | 13 => ("CrankedExcuseModel", "tried", "[I", true)
  | 14 => ("CrankedExcuseModel", "aside", "[I", true)
  | 15 => ("CrankedExcuseModel", "codes", "[I", true)
  | 16 => ("CrankedExcuseModel", "leaning", "[I", true)
  | 17 => ("CrankedExcuseModel", "codesMany", "I", false)
  | _ => ("CrankedExcuseModel", "chosen", "[I", true)
def tyX7 : Nat → FieldType := fun k => match k with
  | 0 => .array .int
  | 1 => .array .int
  | 2 => .array .int
  | 3 => .array .int
  | 4 => .int
  | 5 => .array .int
  | 6 => .int
  | 7 => .array .int
  | 8 => .int
  | 9 => .array .int
  | 10 => .int
  | 11 => .int
  | 12 => .array .int
  | 13 => .array .int
  | 14 => .array .int
  | 15 => .array .int
  | 16 => .array .int
  | 17 => .int
  | _ => .array .int
abbrev wsX70 : List Cond := u_ws RX7 TX7 19
theorem nmX7 : ∀ a, a < 19 → ∀ b, b < 19 → a ≠ b → (TX7 a).2.1 ≠ (TX7 b).2.1 := by decide +kernel
theorem tyX7_ok : ∀ k, k < 19 → parseFieldDescriptor (TX7 k).2.2.1 = some (tyX7 k) := by decide +kernel
abbrev cX7_init : ByteArray := prog_9_method_1_code
def yX7_init : MethodName := ⟨RX7, "<init>", "()V"⟩
abbrev cX7_in : ByteArray := prog_9_method_3_code
def yX7_in : MethodName := ⟨RX7, "in", "(JJJ)Z"⟩
abbrev cX7_isTwo : ByteArray := prog_9_method_4_code
def yX7_isTwo : MethodName := ⟨RX7, "isTwo", "(I)Z"⟩
abbrev cX7_has : ByteArray := prog_9_method_5_code
def yX7_has : MethodName := ⟨RX7, "has", "(II)Z"⟩
abbrev cX7_bits : ByteArray := prog_9_method_6_code
def yX7_bits : MethodName := ⟨RX7, "bits", "(I)I"⟩
abbrev cX7_write : ByteArray := prog_9_method_7_code
def yX7_write : MethodName := ⟨RX7, "write", "(I)I"⟩
abbrev cX7_wipe : ByteArray := prog_9_method_8_code
def yX7_wipe : MethodName := ⟨RX7, "wipe", "()I"⟩
abbrev cX7_clean : ByteArray := prog_9_method_9_code
def yX7_clean : MethodName := ⟨RX7, "clean", "()V"⟩
abbrev cX7_comes : ByteArray := prog_9_method_10_code
def yX7_comes : MethodName := ⟨RX7, "comes", "(III)V"⟩
abbrev cX7_pair : ByteArray := prog_9_method_11_code
def yX7_pair : MethodName := ⟨RX7, "pair", "(IIII)V"⟩
abbrev cX7_person : ByteArray := prog_9_method_12_code
def yX7_person : MethodName := ⟨RX7, "person", "(I)V"⟩
abbrev cX7_takes : ByteArray := prog_9_method_13_code
def yX7_takes : MethodName := ⟨RX7, "takes", "(I)Z"⟩
abbrev cX7_takesWheel : ByteArray := prog_9_method_14_code
def yX7_takesWheel : MethodName := ⟨RX7, "takesWheel", "()Z"⟩
abbrev cX7_isToldTooth : ByteArray := prog_9_method_15_code
def yX7_isToldTooth : MethodName := ⟨RX7, "isToldTooth", "(II)Z"⟩
abbrev cX7_takesPair : ByteArray := prog_9_method_16_code
def yX7_takesPair : MethodName := ⟨RX7, "takesPair", "()Z"⟩
abbrev cX7_takesPerson : ByteArray := prog_9_method_17_code
def yX7_takesPerson : MethodName := ⟨RX7, "takesPerson", "()Z"⟩
abbrev cX7_takesWear : ByteArray := prog_9_method_18_code
def yX7_takesWear : MethodName := ⟨RX7, "takesWear", "()Z"⟩
abbrev cX7_takesItem : ByteArray := prog_9_method_19_code
def yX7_takesItem : MethodName := ⟨RX7, "takesItem", "()Z"⟩
abbrev cX7_fault : ByteArray := prog_9_method_20_code
def yX7_fault : MethodName := ⟨RX7, "fault", "()I"⟩
abbrev cX7_begins : ByteArray := prog_9_method_21_code
def yX7_begins : MethodName := ⟨RX7, "begins", "()V"⟩
abbrev cX7_lay : ByteArray := prog_9_method_22_code
def yX7_lay : MethodName := ⟨RX7, "lay", "()I"⟩
abbrev cX7_isWheel : ByteArray := prog_9_method_23_code
def yX7_isWheel : MethodName := ⟨RX7, "isWheel", "(I)Z"⟩
abbrev cX7_isTooth : ByteArray := prog_9_method_24_code
def yX7_isTooth : MethodName := ⟨RX7, "isTooth", "(II)Z"⟩
abbrev cX7_isPerson : ByteArray := prog_9_method_25_code
def yX7_isPerson : MethodName := ⟨RX7, "isPerson", "(I)Z"⟩
abbrev cX7_excuses : ByteArray := prog_9_method_26_code
def yX7_excuses : MethodName := ⟨RX7, "excuses", "()I"⟩
abbrev cX7_isExcuse : ByteArray := prog_9_method_27_code
def yX7_isExcuse : MethodName := ⟨RX7, "isExcuse", "(I)Z"⟩
abbrev cX7_toothOf : ByteArray := prog_9_method_28_code
def yX7_toothOf : MethodName := ⟨RX7, "toothOf", "(II)I"⟩
abbrev cX7_upOn : ByteArray := prog_9_method_29_code
def yX7_upOn : MethodName := ⟨RX7, "upOn", "([I)I"⟩
abbrev cX7_turns : ByteArray := prog_9_method_30_code
def yX7_turns : MethodName := ⟨RX7, "turns", "([I)V"⟩
abbrev cX7_hasSense : ByteArray := prog_9_method_31_code
def yX7_hasSense : MethodName := ⟨RX7, "hasSense", "([II)Z"⟩
abbrev cX7_talksOf : ByteArray := prog_9_method_32_code
def yX7_talksOf : MethodName := ⟨RX7, "talksOf", "(I)I"⟩
abbrev cX7_isStale : ByteArray := prog_9_method_33_code
def yX7_isStale : MethodName := ⟨RX7, "isStale", "([III)Z"⟩
abbrev cX7_isSeen : ByteArray := prog_9_method_34_code
def yX7_isSeen : MethodName := ⟨RX7, "isSeen", "([IIII)Z"⟩
abbrev cX7_loses : ByteArray := prog_9_method_35_code
def yX7_loses : MethodName := ⟨RX7, "loses", "([I)V"⟩
abbrev cX7_gives : ByteArray := prog_9_method_36_code
def yX7_gives : MethodName := ⟨RX7, "gives", "([III)Z"⟩
abbrev cX7_wheel : ByteArray := prog_9_method_37_code
def yX7_wheel : MethodName := ⟨RX7, "wheel", "(II)I"⟩
abbrev cX7_talks : ByteArray := prog_9_method_38_code
def yX7_talks : MethodName := ⟨RX7, "talks", "(I)I"⟩
abbrev cX7_isHeard : ByteArray := prog_9_method_39_code
def yX7_isHeard : MethodName := ⟨RX7, "isHeard", "(I)Z"⟩
abbrev cX7_heard : ByteArray := prog_9_method_40_code
def yX7_heard : MethodName := ⟨RX7, "heard", "(II)I"⟩
abbrev cX7_sense : ByteArray := prog_9_method_41_code
def yX7_sense : MethodName := ⟨RX7, "sense", "(I)I"⟩
abbrev cX7_stale : ByteArray := prog_9_method_42_code
def yX7_stale : MethodName := ⟨RX7, "stale", "(II)I"⟩
abbrev cX7_copies : ByteArray := prog_9_method_43_code
def yX7_copies : MethodName := ⟨RX7, "copies", "([II[II)V"⟩
abbrev cX7_remember : ByteArray := prog_9_method_44_code
def yX7_remember : MethodName := ⟨RX7, "remember", "()V"⟩
abbrev cX7_crank : ByteArray := prog_9_method_45_code
def yX7_crank : MethodName := ⟨RX7, "crank", "()I"⟩
abbrev cX7_give : ByteArray := prog_9_method_46_code
def yX7_give : MethodName := ⟨RX7, "give", "(II)I"⟩
abbrev cX7_day : ByteArray := prog_9_method_47_code
def yX7_day : MethodName := ⟨RX7, "day", "()I"⟩
abbrev cX7_file : ByteArray := prog_9_method_48_code
def yX7_file : MethodName := ⟨RX7, "file", "(II)I"⟩
abbrev cX7_gear : ByteArray := prog_9_method_49_code
def yX7_gear : MethodName := ⟨RX7, "gear", "(II)I"⟩
abbrev cX7_undo : ByteArray := prog_9_method_50_code
def yX7_undo : MethodName := ⟨RX7, "undo", "()I"⟩
abbrev cX7_layAside : ByteArray := prog_9_method_51_code
def yX7_layAside : MethodName := ⟨RX7, "layAside", "()V"⟩
abbrev cX7_up : ByteArray := prog_9_method_52_code
def yX7_up : MethodName := ⟨RX7, "up", "(II)I"⟩
abbrev cX7_common : ByteArray := prog_9_method_53_code
def yX7_common : MethodName := ⟨RX7, "common", "(II)I"⟩
abbrev cX7_round : ByteArray := prog_9_method_54_code
def yX7_round : MethodName := ⟨RX7, "round", "()I"⟩
abbrev cX7_inRound : ByteArray := prog_9_method_55_code
def yX7_inRound : MethodName := ⟨RX7, "inRound", "(I)I"⟩
abbrev cX7_sensible : ByteArray := prog_9_method_56_code
def yX7_sensible : MethodName := ⟨RX7, "sensible", "(I)I"⟩
abbrev cX7_longest : ByteArray := prog_9_method_57_code
def yX7_longest : MethodName := ⟨RX7, "longest", "(I)I"⟩
abbrev cX7_heardBy : ByteArray := prog_9_method_58_code
def yX7_heardBy : MethodName := ⟨RX7, "heardBy", "(I)I"⟩
abbrev cX7_layTeeth : ByteArray := prog_9_method_59_code
def yX7_layTeeth : MethodName := ⟨RX7, "layTeeth", "()V"⟩
abbrev cX7_leansOn : ByteArray := prog_9_method_60_code
def yX7_leansOn : MethodName := ⟨RX7, "leansOn", "(II)Z"⟩
abbrev cX7_teeth : ByteArray := prog_9_method_61_code
def yX7_teeth : MethodName := ⟨RX7, "teeth", "(II)I"⟩
abbrev cX7_clash : ByteArray := prog_9_method_62_code
def yX7_clash : MethodName := ⟨RX7, "clash", "(II)Z"⟩
abbrev cX7_together : ByteArray := prog_9_method_63_code
def yX7_together : MethodName := ⟨RX7, "together", "(I)I"⟩
abbrev cX7_owner : ByteArray := prog_9_method_64_code
def yX7_owner : MethodName := ⟨RX7, "owner", "(I)I"⟩
abbrev cX7_caught : ByteArray := prog_9_method_65_code
def yX7_caught : MethodName := ⟨RX7, "caught", "(III)J"⟩
abbrev cX7_shown : ByteArray := prog_9_method_66_code
def yX7_shown : MethodName := ⟨RX7, "shown", "(III)I"⟩
abbrev cX7_forget : ByteArray := prog_9_method_67_code
def yX7_forget : MethodName := ⟨RX7, "forget", "()I"⟩
abbrev cX7_behind : ByteArray := prog_9_method_68_code
def yX7_behind : MethodName := ⟨RX7, "behind", "(III)I"⟩
abbrev cX7_gearsOf : ByteArray := prog_9_method_69_code
def yX7_gearsOf : MethodName := ⟨RX7, "gearsOf", "(I)I"⟩
abbrev cX7_gears : ByteArray := prog_9_method_70_code
def yX7_gears : MethodName := ⟨RX7, "gears", "(I)I"⟩
abbrev cX7_worst : ByteArray := prog_9_method_71_code
def yX7_worst : MethodName := ⟨RX7, "worst", "(III)I"⟩
abbrev cX7_ask : ByteArray := prog_9_method_72_code
def yX7_ask : MethodName := ⟨RX7, "ask", "(II)I"⟩
abbrev cX7_sell : ByteArray := prog_9_method_73_code
def yX7_sell : MethodName := ⟨RX7, "sell", "(I)I"⟩
abbrev cX7_year : ByteArray := prog_9_method_74_code
def yX7_year : MethodName := ⟨RX7, "year", "(III)I"⟩
abbrev cX7_keep : ByteArray := prog_9_method_75_code
def yX7_keep : MethodName := ⟨RX7, "keep", "()I"⟩
abbrev cX7_back : ByteArray := prog_9_method_76_code
def yX7_back : MethodName := ⟨RX7, "back", "()I"⟩
abbrev cX7_count : ByteArray := prog_9_method_77_code
def yX7_count : MethodName := ⟨RX7, "count", "(I)I"⟩
def RJ6 : String := "java/lang/Integer"
def TJ6 : u_T := fun k => match k with
  | _ => ("", "", "", false)
def tyJ6 : Nat → FieldType := fun k => match k with
  | _ => .int
abbrev wsJ60 : List Cond := u_ws RJ6 TJ6 0
theorem nmJ6 : ∀ a, a < 0 → ∀ b, b < 0 → a ≠ b → (TJ6 a).2.1 ≠ (TJ6 b).2.1 := by decide +kernel
theorem tyJ6_ok : ∀ k, k < 0 → parseFieldDescriptor (TJ6 k).2.2.1 = some (tyJ6 k) := by decide +kernel
abbrev cJ6_bitCount_0f7a4 : ByteArray := prog_10_method_49_code
def yJ6_bitCount_0f7a4 : MethodName := ⟨RJ6, "bitCount", "(I)I"⟩
def RJ9 : String := "java/lang/Math"
def TJ9 : u_T := fun k => match k with
  | _ => ("", "", "", false)
def tyJ9 : Nat → FieldType := fun k => match k with
  | _ => .int
abbrev wsJ90 : List Cond := u_ws RJ9 TJ9 0
theorem nmJ9 : ∀ a, a < 0 → ∀ b, b < 0 → a ≠ b → (TJ9 a).2.1 ≠ (TJ9 b).2.1 := by decide +kernel
theorem tyJ9_ok : ∀ k, k < 0 → parseFieldDescriptor (TJ9 k).2.2.1 = some (tyJ9 k) := by decide +kernel
abbrev cJ9_max_7cf53 : ByteArray := prog_11_method_65_code
def yJ9_max_7cf53 : MethodName := ⟨RJ9, "max", "(II)I"⟩
abbrev cJ9_min_7cf53 : ByteArray := prog_11_method_69_code
def yJ9_min_7cf53 : MethodName := ⟨RJ9, "min", "(II)I"⟩
def RJ0 : String := "java/lang/String"
def TJ0 : u_T := fun k => match k with
  | _ => ("", "", "", false)
def tyJ0 : Nat → FieldType := fun k => match k with
  | _ => .int
abbrev wsJ00 : List Cond := u_ws RJ0 TJ0 0
theorem nmJ0 : ∀ a, a < 0 → ∀ b, b < 0 → a ≠ b → (TJ0 a).2.1 ≠ (TJ0 b).2.1 := by decide +kernel
theorem tyJ0_ok : ∀ k, k < 0 → parseFieldDescriptor (TJ0 k).2.2.1 = some (tyJ0 k) := by decide +kernel
abbrev cJ0_length_8abf5 : ByteArray := prog_12_method_54_code
def yJ0_length_8abf5 : MethodName := ⟨RJ0, "length", "()I"⟩
abbrev cJ0_charAt_5068e : ByteArray := prog_12_method_56_code
def yJ0_charAt_5068e : MethodName := ⟨RJ0, "charAt", "(I)C"⟩
abbrev cJ0_coder_7d493 : ByteArray := prog_12_method_152_code
def yJ0_coder_7d493 : MethodName := ⟨RJ0, "coder", "()B"⟩
abbrev cJ0_isLatin1_aae02 : ByteArray := prog_12_method_154_code
def yJ0_isLatin1_aae02 : MethodName := ⟨RJ0, "isLatin1", "()Z"⟩
abbrev cJ0_checkIndex_df160 : ByteArray := prog_12_method_155_code
def yJ0_checkIndex_df160 : MethodName := ⟨RJ0, "checkIndex", "(II)V"⟩
def RJ1 : String := "java/lang/StringLatin1"
def TJ1 : u_T := fun k => match k with
  | _ => ("", "", "", false)
def tyJ1 : Nat → FieldType := fun k => match k with
  | _ => .int
abbrev wsJ10 : List Cond := u_ws RJ1 TJ1 0
theorem nmJ1 : ∀ a, a < 0 → ∀ b, b < 0 → a ≠ b → (TJ1 a).2.1 ≠ (TJ1 b).2.1 := by decide +kernel
theorem tyJ1_ok : ∀ k, k < 0 → parseFieldDescriptor (TJ1 k).2.2.1 = some (tyJ1 k) := by decide +kernel
abbrev cJ1_charAt_3b067 : ByteArray := prog_13_method_2_code
def yJ1_charAt_3b067 : MethodName := ⟨RJ1, "charAt", "([BI)C"⟩
def RJ2 : String := "java/lang/StringUTF16"
def TJ2 : u_T := fun k => match k with
  | _ => ("", "", "", false)
def tyJ2 : Nat → FieldType := fun k => match k with
  | _ => .int
abbrev wsJ20 : List Cond := u_ws RJ2 TJ2 0
theorem nmJ2 : ∀ a, a < 0 → ∀ b, b < 0 → a ≠ b → (TJ2 a).2.1 ≠ (TJ2 b).2.1 := by decide +kernel
theorem tyJ2_ok : ∀ k, k < 0 → parseFieldDescriptor (TJ2 k).2.2.1 = some (tyJ2 k) := by decide +kernel
abbrev cJ2_getChar_3b067 : ByteArray := prog_14_method_5_code
def yJ2_getChar_3b067 : MethodName := ⟨RJ2, "getChar", "([BI)C"⟩
abbrev cJ2_length_9d52b : ByteArray := prog_14_method_6_code
def yJ2_length_9d52b : MethodName := ⟨RJ2, "length", "([B)I"⟩
abbrev cJ2_charAt_3b067 : ByteArray := prog_14_method_83_code
def yJ2_charAt_3b067 : MethodName := ⟨RJ2, "charAt", "([BI)C"⟩
abbrev cJ2_checkIndex_2214a : ByteArray := prog_14_method_91_code
def yJ2_checkIndex_2214a : MethodName := ⟨RJ2, "checkIndex", "(I[B)V"⟩
def RJ10 : String := "java/lang/System"
def TJ10 : u_T := fun k => match k with
  | _ => ("", "", "", false)
def tyJ10 : Nat → FieldType := fun k => match k with
  | _ => .int
abbrev wsJ100 : List Cond := u_ws RJ10 TJ10 0
theorem nmJ10 : ∀ a, a < 0 → ∀ b, b < 0 → a ≠ b → (TJ10 a).2.1 ≠ (TJ10 b).2.1 := by decide +kernel
theorem tyJ10_ok : ∀ k, k < 0 → parseFieldDescriptor (TJ10 k).2.2.1 = some (tyJ10 k) := by decide +kernel
def RJ3 : String := "jdk/internal/util/Preconditions"
def TJ3 : u_T := fun k => match k with
  | _ => ("", "", "", false)
def tyJ3 : Nat → FieldType := fun k => match k with
  | _ => .int
abbrev wsJ30 : List Cond := u_ws RJ3 TJ3 0
theorem nmJ3 : ∀ a, a < 0 → ∀ b, b < 0 → a ≠ b → (TJ3 a).2.1 ≠ (TJ3 b).2.1 := by decide +kernel
theorem tyJ3_ok : ∀ k, k < 0 → parseFieldDescriptor (TJ3 k).2.2.1 = some (tyJ3 k) := by decide +kernel
abbrev cJ3_checkIndex_8e157 : ByteArray := prog_16_method_11_code
def yJ3_checkIndex_8e157 : MethodName := ⟨RJ3, "checkIndex", "(IILjava/util/function/BiFunction;)I"⟩
def RL : String := "CrankedExcuseLaw"
abbrev cL_law : ByteArray := code
def yL_law : MethodName := ⟨RL, "law", "([I)Z"⟩
abbrev vwCl : List vw_C := [(RX0, TX0, 11), (RX1, TX1, 4), (RX2, TX2, 12), (RX3, TX3, 3), (RX4, TX4, 4), (RX5, TX5, 4), (RX6, TX6, 9), (RX7, TX7, 19)]
